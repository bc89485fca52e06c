import java.util.Random;

/** Promises 16 to 19 and 27 to 55 in depth: nets made for one matter each, all that is found read out and compared. */
public final class ThemesTest {
    private static final int TURNS = 250;
    private static final int WIDE_TURNS = 12;

    private static final Due due = new Due("ThemesTest");

    public static void main(String[] args) {
        for (int turn = 0; turn < TURNS; turn++) {
            new ThemesTest(turn, "field").fields();
            new ThemesTest(turn, "works").workings();
            new ThemesTest(turn, "tree").trees();
            new ThemesTest(turn, "late tree").lateTrees();
            new ThemesTest(turn, "balance").balances();
            new ThemesTest(turn, "chain").chains();
            new ThemesTest(turn, "sets").drainsAndTraps();
            new ThemesTest(turn, "free").freeNets();
            new ThemesTest(turn, "things").things();
        }
        for (int turn = 0; turn < WIDE_TURNS; turn++) {
            new ThemesTest(turn, "wide").widest();
        }
        due.end();
    }

    private final Random random;
    private final Twin twin;

    private ThemesTest(int turn, String theme) {
        random = new Random(turn * 31L + theme.hashCode());
        twin = new Twin(due, theme + " " + turn);
    }

    private void build(int places, int placeKinds, int steps, int stepKinds) {
        for (int p = 0; p < places; p++) {
            twin.ask("place", random.nextInt(placeKinds));
        }
        for (int s = 0; s < steps; s++) {
            twin.ask("step", random.nextInt(stepKinds));
        }
    }

    private int place() {
        return random.nextInt(twin.count(0));
    }

    private int step() {
        return random.nextInt(twin.count(1));
    }

    private void randomRow(int below) {
        twin.ask("row", random.nextInt(twin.count(0) + 3));
        for (int i = 0; i < twin.count(4); i++) {
            twin.ask("set", i, random.nextInt(below));
        }
    }

    // ---- the field

    private void fields() {
        build(2 + random.nextInt(4), 1, 2 + random.nextInt(4), 1 + random.nextInt(4));
        for (int s = 0; s < twin.count(1); s++) {
            twin.ask("arc", s, place(), 1 + random.nextInt(2), 0);
            twin.ask("arc", s, place(), 0, 1);
            if (random.nextInt(4) == 0) {
                twin.ask("need", s, place(), 1 + random.nextInt(2));
                twin.ask("close", s, place(), 1);
            }
        }
        for (int p = 0; p < twin.count(0); p++) {
            twin.ask("mark", p, random.nextInt(4));
        }
        int size = twin.ask("field", 120);
        readField();
        if (size > 1) {
            twin.ask("field", size - 1);
            twin.ask("count", 6);
            twin.ask("field", size);
            twin.ask("count", 6);
        }
    }

    private void readField() {
        int size = twin.count(6);
        for (int i = -1; i <= size; i++) {
            for (int p = 0; p < twin.count(0); p++) {
                twin.ask("marking", i, p);
            }
            for (int s = 0; s < twin.count(1); s++) {
                twin.ask("next", i, s);
            }
            twin.ask("way", i);
            twin.ask("check");
            for (int k = 0; k <= twin.count(5); k++) {
                twin.ask("walk", k);
            }
        }
        for (int k = 0; k < 6; k++) {
            twin.ask("dead", k);
            twin.ask("home", size == 0 ? 0 : random.nextInt(size));
            randomRow(3);
            twin.ask("find");
        }
        for (int s = 0; s < twin.count(1); s++) {
            twin.ask("stuck", s);
        }
        findEach(size);
    }

    private void findEach(int size) {
        twin.ask("row", twin.count(0));
        for (int i = 0; i < size; i += 1 + random.nextInt(5)) {
            for (int p = 0; p < twin.count(0); p++) {
                twin.ask("set", p, twin.ask("marking", i, p));
            }
            twin.ask("find");
        }
    }

    /** A way from a beginning to an end, made by taking steps apart, then spoilt a little now and then. */
    private void workings() {
        twin.ask("place", 0);
        twin.ask("place", 0);
        chain(0, 1);
        for (int more = random.nextInt(4); more > 0; more--) {
            int kind = random.nextInt(3);
            int s = step();
            if (kind == 0) {
                int before = firstPlace(s, 0);
                int after = firstPlace(s, 1);
                chain(before, after);
            } else {
                int between = twin.ask("place", 0);
                int other = twin.ask("step", 0);
                int after = firstPlace(s, 1);
                twin.ask("arc", s, after, 0, 0);
                twin.ask("arc", s, between, 0, 1);
                twin.ask("arc", other, between, 1, 0);
                twin.ask("arc", other, after, 0, 1);
                if (kind == 2) {
                    int beside = twin.ask("place", 0);
                    twin.ask("arc", s, beside, 0, 1);
                    twin.ask("arc", other, beside, 1, 0);
                }
            }
        }
        twin.ask("works", 0, 1, 100);
        twin.ask("fault");
        readField();
        for (int spoilt = 0; spoilt < 3; spoilt++) {
            if (random.nextInt(3) == 0) {
                cleanUpAtTheEnd();
            } else {
                twin.ask("arc", step(), place(), random.nextInt(2), random.nextInt(2));
            }
            twin.ask("works", 0, 1, 100);
            twin.ask("fault");
            twin.ask("works", place(), place(), 1 + random.nextInt(100));
            twin.ask("fault");
            twin.ask("count", 6);
        }
    }

    /** Something is left beside the end, which one more step takes away. */
    private void cleanUpAtTheEnd() {
        int left = twin.ask("place", 0);
        int cleaner = twin.ask("step", 0);
        twin.ask("arc", step(), left, 0, 1);
        twin.ask("arc", cleaner, left, 1, 0);
        twin.ask("arc", cleaner, 1, random.nextInt(2), random.nextInt(2));
    }

    private void chain(int from, int to) {
        int s = twin.ask("step", 0);
        twin.ask("arc", s, from, 1, 0);
        twin.ask("arc", s, to, 0, 1);
    }

    private int firstPlace(int step, int what) {
        for (int p = 0; p < twin.count(0); p++) {
            if (twin.ask("asks", step, p, what) > 0) {
                return p;
            }
        }
        return 0;
    }

    // ---- the tree

    private void trees() {
        build(1 + random.nextInt(4), 1, 1 + random.nextInt(4), 1 + random.nextInt(2));
        for (int s = 0; s < twin.count(1); s++) {
            twin.ask("arc", s, place(), 1, random.nextInt(2));
            twin.ask("arc", s, place(), random.nextInt(2), 1 + random.nextInt(2));
            if (random.nextInt(3) == 0) {
                twin.ask("need", s, place(), 1 + random.nextInt(3));
            }
        }
        for (int p = 0; p < twin.count(0); p++) {
            twin.ask("mark", p, random.nextInt(3));
        }
        growAndReadTree();
    }

    /** One mark that walks along a line, and now and then comes back with something more. */
    private void lateTrees() {
        int places = 3 + random.nextInt(3);
        build(places, 1, places - 1, 1 + random.nextInt(2));
        for (int s = 0; s < places - 1; s++) {
            twin.ask("arc", s, s, 1, 0);
            twin.ask("arc", s, s + 1, 0, 1);
        }
        for (int more = 1 + random.nextInt(2); more > 0; more--) {
            int s = twin.ask("step", random.nextInt(2));
            twin.ask("arc", s, place(), 1, 0);
            twin.ask("arc", s, place(), 0, 1);
            twin.ask("arc", s, place(), 0, 1 + random.nextInt(2));
            twin.ask("need", s, place(), 1);
        }
        twin.ask("mark", 0, 1 + random.nextInt(2));
        growAndReadTree();
    }

    private void growAndReadTree() {
        int size = twin.ask("tree", 250);
        for (int i = -1; i <= twin.count(7); i++) {
            for (int p = 0; p < twin.count(0); p++) {
                twin.ask("node", i, p);
            }
            for (int what = 0; what < 3; what++) {
                twin.ask("above", i, what);
            }
        }
        readTree();
        if (size > 1) {
            twin.ask("tree", size - 1);
            twin.ask("count", 7);
            twin.ask("tree", size);
        }
    }

    private void readTree() {
        for (int p = 0; p < twin.count(0); p++) {
            twin.ask("bound", p);
        }
        twin.ask("lay", 0);
        twin.ask("pump");
        twin.ask("count", 5);
        for (int k = 0; k < twin.count(5); k++) {
            twin.ask("walk", k);
        }
        twin.ask("check");
        for (int k = 0; k < 8; k++) {
            randomRow(1 + random.nextInt(5));
            twin.ask("cover");
        }
    }

    // ---- weights and rounds

    private void balances() {
        build(1 + random.nextInt(16), 1 + random.nextInt(2), random.nextInt(17), 4);
        int high = random.nextInt(3) == 0 ? 10 : 2;
        int rare = 1 + random.nextInt(6);
        for (int s = 0; s < twin.count(1); s++) {
            for (int p = 0; p < twin.count(0); p++) {
                if (random.nextInt(rare) == 0) {
                    twin.ask("arc", s, p, random.nextInt(high), random.nextInt(high));
                }
            }
        }
        readBalances();
    }

    /** Each step takes from one place and puts into the next, which makes numbers grow. */
    private void chains() {
        build(2 + random.nextInt(15), 1, 2 + random.nextInt(15), 1);
        int least = 1 + random.nextInt(7);
        for (int s = 0; s < twin.count(1); s++) {
            int p = s % twin.count(0);
            int q = random.nextInt(4) == 0 ? place() : (p + 1) % twin.count(0);
            twin.ask("arc", s, p, least + random.nextInt(3), 0);
            if (q != p) {
                twin.ask("arc", s, q, 0, 1 + random.nextInt(9));
            }
        }
        readBalances();
    }

    private void readBalances() {
        twin.ask("weights");
        twin.ask("rounds");
        for (int k = -1; k <= twin.count(8); k++) {
            twin.ask("row", twin.count(0));
            for (int p = 0; p < twin.count(0); p++) {
                twin.ask("set", p, twin.ask("weight", k, p));
            }
            twin.ask("keeps");
            twin.ask("set", 0, 3);
            twin.ask("keeps");
        }
        for (int k = -1; k <= twin.count(9); k++) {
            twin.ask("row", twin.count(1));
            for (int s = 0; s < twin.count(1); s++) {
                twin.ask("set", s, twin.ask("round", k, s));
            }
            twin.ask("turns");
            twin.ask("set", 0, 3);
            twin.ask("turns");
        }
    }

    // ---- drains and traps

    private void drainsAndTraps() {
        build(2 + random.nextInt(8), 1 + random.nextInt(2), random.nextInt(12), 2);
        int rare = 1 + random.nextInt(4);
        for (int s = 0; s < twin.count(1); s++) {
            for (int arcs = 1 + random.nextInt(4); arcs > 0; arcs--) {
                twin.ask("arc", s, place(), random.nextInt(2), random.nextInt(2));
            }
            if (random.nextInt(rare) == 0) {
                twin.ask("arc", s, place(), 2, 0);
                twin.ask("arc", s, place(), 0, 3);
            }
        }
        for (int what = 0; what < 2; what++) {
            twin.ask("sets", what, 500);
            for (int k = -1; k <= twin.count(10); k++) {
                twin.ask("bits", k);
            }
            twin.ask("sets", what, 1 + random.nextInt(3));
            twin.ask("bits", 1);
            for (int k = 0; k < 20; k++) {
                int set = random.nextInt((1 << twin.count(0)) + 1);
                twin.ask("isSet", set, what);
                twin.ask("isSet", twin.ask("greatest", set, what), what);
            }
        }
        twin.ask("bare");
        for (int p = 0; p < twin.count(0); p++) {
            twin.ask("mark", place(), 1);
            twin.ask("thing", place(), 1);
            twin.ask("bare");
        }
    }

    private void freeNets() {
        build(1 + random.nextInt(4), 1, 1 + random.nextInt(5), 1);
        for (int s = 0; s < twin.count(1); s++) {
            twin.ask("arc", s, s % twin.count(0), 1, random.nextInt(2));
            twin.ask("arc", s, place(), 0, 1);
            twin.ask("free");
        }
        for (int k = 0; k < 4; k++) {
            twin.ask("arc", step(), place(), random.nextInt(2), random.nextInt(2));
            twin.ask("free");
        }
        twin.ask("arc", step(), place(), 1, 2);
        twin.ask("free");
    }

    // ---- going

    private void things() {
        build(2 + random.nextInt(4), 2, 1 + random.nextInt(4), 1 + random.nextInt(4));
        for (int s = 0; s < twin.count(1); s++) {
            for (int arcs = 0; arcs < 3; arcs++) {
                int p = place();
                twin.ask("arc", s, p, random.nextInt(3), random.nextInt(3));
                twin.ask("want", s, p, random.nextInt(4), random.nextInt(4));
            }
        }
        for (int p = 0; p < twin.count(0); p++) {
            twin.ask("mark", p, random.nextInt(30));
            for (int n = random.nextInt(21); n > 0; n--) {
                twin.ask("thing", p, random.nextInt(4));
            }
        }
        for (int k = 0; k < 25; k++) {
            for (int s = 0; s < twin.count(1); s++) {
                twin.ask("may", s);
            }
            int act = random.nextInt(5);
            if (act == 0) {
                twin.ask("run", 1 + random.nextInt(40));
            } else if (act == 1) {
                twin.ask("back");
            } else {
                twin.ask("go", step());
            }
            readThings();
        }
    }

    private void readThings() {
        for (int p = 0; p < twin.count(0); p++) {
            int many = twin.ask("many", p);
            twin.ask("share", p);
            for (int i = 0; i <= Math.min(many, 20); i++) {
                twin.ask("kind", p, i);
            }
        }
        twin.ask("count", 2);
        twin.ask("count", 3);
    }

    // ---- all of it with 16 places and 16 steps

    private void widest() {
        build(16, 1, 16, 1 + random.nextInt(2));
        for (int s = 0; s < 16; s++) {
            twin.ask("arc", s, s, 1, 0);
            twin.ask("arc", s, (s + 1) % 16, 0, 1);
            twin.ask("need", s, 15, random.nextInt(2));
        }
        twin.ask("free");
        for (int more = random.nextInt(3); more > 0; more--) {
            twin.ask("arc", step(), place(), random.nextInt(2), random.nextInt(2));
        }
        twin.ask("mark", 15, 1);
        twin.ask("mark", random.nextInt(15), 1);
        twin.ask("field", 150);
        readField();
        growAndReadTree();
        readBalances();
        for (int s = 0; s < 16; s++) {
            twin.ask("may", s);
        }
        twin.ask("run", 20);
        readThings();
        twin.ask("back");
        readThings();
        twin.ask("works", 15, random.nextInt(16), 100);
        twin.ask("fault");
        twin.ask("free");
        for (int what = 0; what < 2; what++) {
            twin.ask("sets", what, 500);
            for (int k = 0; k <= twin.count(10); k++) {
                twin.ask("bits", k);
            }
            twin.ask("isSet", 65535, what);
            twin.ask("greatest", 65535, what);
            twin.ask("isSet", 65536, what);
        }
        twin.ask("bare");
    }
}
