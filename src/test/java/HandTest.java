/** Promises 20 to 27: in hand. */
public final class HandTest {
    private static final Due due = new Due("HandTest");

    public static void main(String[] args) {
        rows();
        numbers();
        copies();
        laying();
        theLongestWay();
        checking();
        due.end();
    }

    private static void rows() {
        due.part("promise 20");
        NetHouse x = new NetHouse();
        due.is("row(-1)", x.row(-1), Due.BAD);
        due.is("row(17)", x.row(17), Due.BAD);
        due.is("row(16)", x.row(16), 16);
        for (int i = 0; i < 16; i++) {
            due.is("set", x.set(i, i + 1), 0);
        }
        due.is("row(3)", x.row(3), 3);
        due.is("count(4)", x.count(4), 3);
        due.is("get(3)", x.get(3), Due.BAD);
        due.is("row(16)", x.row(16), 16);
        for (int i = 0; i < 16; i++) {
            due.is("get, all are 0", x.get(i), 0);
        }
        due.is("row(0)", x.row(0), 0);
        due.is("get(0)", x.get(0), Due.BAD);
        due.is("count(4)", x.count(4), 0);
    }

    private static void numbers() {
        due.part("promises 21 and 22");
        NetHouse x = new NetHouse();
        due.is("set(0, 0) of no row", x.set(0, 0), Due.BAD);
        x.row(2);
        due.is("set(0, 1000000000)", x.set(0, 1000000000), 0);
        due.is("set(0, 1000000001)", x.set(0, 1000000001), Due.BAD);
        due.is("set(0, -1000000000)", x.set(0, -1000000000), 1000000000);
        due.is("set(0, -1000000001)", x.set(0, -1000000001), Due.BAD);
        due.is("set(2, 0)", x.set(2, 0), Due.BAD);
        due.is("set(-1, 0)", x.set(-1, 0), Due.BAD);
        due.is("get(0)", x.get(0), -1000000000);
        due.is("get(1)", x.get(1), 0);
        due.is("get(2)", x.get(2), Due.BAD);
        due.is("get(-1)", x.get(-1), Due.BAD);
    }

    private static void copies() {
        due.part("promise 23");
        due.is("copy(0, 2, 3)", copied(0, 2, 3, 1, 2, 1, 2, 3), 1);
        due.is("copy(2, 0, 3)", copied(2, 0, 3, 3, 4, 5, 4, 5), 1);
        due.is("copy(1, 1, 4)", copied(1, 1, 4, 1, 2, 3, 4, 5), 1);
        due.is("copy(4, 0, 1)", copied(4, 0, 1, 5, 2, 3, 4, 5), 1);
        due.is("copy(5, 5, 0)", copied(5, 5, 0, 1, 2, 3, 4, 5), 1);
        NetHouse x = ofFive();
        int[][] wrong = {{0, 0, -1}, {0, 0, 6}, {3, 0, 3}, {0, 3, 3}, {-1, 0, 1}, {0, -1, 1}, {6, 0, 0}, {0, 6, 0},
            {-1, 0, 0}, {0, -1, 0}, {5, 0, 1}, {0, 5, 1}, {1, 0, Integer.MAX_VALUE}, {Integer.MAX_VALUE, 0, 1},
            {0, Integer.MAX_VALUE, Integer.MAX_VALUE}, {0, 0, Integer.MIN_VALUE}};
        for (int[] w : wrong) {
            due.is("copy(" + w[0] + ", " + w[1] + ", " + w[2] + ")", x.copy(w[0], w[1], w[2]), Due.BAD);
        }
        for (int i = 0; i < 5; i++) {
            due.is("get(" + i + ") behind refusals", x.get(i), i + 1);
        }
        NetHouse empty = new NetHouse();
        due.is("copy(0, 0, 0) of no row", empty.copy(0, 0, 0), 0);
        due.is("copy(1, 0, 0) of no row", empty.copy(1, 0, 0), Due.BAD);
    }

    private static NetHouse ofFive() {
        NetHouse x = new NetHouse();
        x.row(5);
        for (int i = 0; i < 5; i++) {
            x.set(i, i + 1);
        }
        return x;
    }

    private static int copied(int a, int b, int n, int... want) {
        NetHouse x = ofFive();
        if (x.copy(a, b, n) != 0) {
            return 0;
        }
        for (int i = 0; i < 5; i++) {
            if (x.get(i) != want[i]) {
                return 0;
            }
        }
        return 1;
    }

    private static void laying() {
        due.part("promises 24 to 26");
        NetHouse x = new NetHouse();
        due.is("lay(0) without steps", x.lay(0), Due.BAD);
        due.is("lift() of nothing", x.lift(), 0);
        x.step(0);
        x.step(0);
        for (int i = 0; i < 40; i++) {
            due.is("lay", x.lay(i % 3 == 0 ? 1 : 0), i + 1);
        }
        due.is("lay(2)", x.lay(2), Due.BAD);
        due.is("lay(-1)", x.lay(-1), Due.BAD);
        for (int i = 0; i < 40; i++) {
            due.is("walk(" + i + ")", x.walk(i), i % 3 == 0 ? 1 : 0);
        }
        due.is("walk(40)", x.walk(40), Due.BAD);
        due.is("walk(-1)", x.walk(-1), Due.BAD);
        due.is("lift()", x.lift(), 40);
        due.is("lift() again", x.lift(), 0);
        due.is("walk(0)", x.walk(0), Due.BAD);
        due.is("lay(1)", x.lay(1), 1);
        due.is("walk(0)", x.walk(0), 1);
    }

    private static void theLongestWay() {
        due.part("promise 24, 8000 steps");
        NetHouse x = new NetHouse();
        x.place(0);
        x.step(0);
        x.arc(0, 0, 1, 0);
        x.mark(0, 7999);
        due.is("field(8000)", x.field(8000), 8000);
        due.is("way(7999)", x.way(7999), 7999);
        due.is("check()", x.check(), 7999);
        due.is("lay(0)", x.lay(0), 8000);
        due.is("lay(0) as the 8001st", x.lay(0), Due.FULL);
        due.is("lay(1) as the 8001st", x.lay(1), Due.BAD);
        due.is("check(), the last one does not go", x.check(), 7999);
        due.is("walk(7999)", x.walk(7999), 0);
        due.is("walk(8000)", x.walk(8000), Due.BAD);
        due.is("lift()", x.lift(), 8000);
    }

    private static void checking() {
        due.part("promise 27");
        NetHouse x = new NetHouse();
        x.place(0);
        x.place(0);
        x.step(0);
        x.step(0);
        x.step(3);
        x.arc(0, 0, 1, 0);
        x.arc(0, 1, 0, 1);
        x.arc(1, 1, 1, 0);
        x.arc(2, 1, 2, 0);
        x.mark(0, 3);
        due.is("check() of no way", x.check(), 0);
        for (int step : new int[] {0, 1, 0, 0, 2, 0}) {
            x.lay(step);
        }
        due.is("check()", x.check(), 5);
        due.is("nothing goes by it", x.many(0), 3);
        due.is("nor into THE PAST", x.count(2), 0);
        due.is("nor is it counted", x.count(3), 0);
        x.lift();
        for (int step : new int[] {0, 0, 1}) {
            x.lay(step);
        }
        due.is("check(), an urgent one may", x.check(), 2);
        x.mark(0, 0);
        due.is("check() from what there is now", x.check(), 0);
        x.place(1);
        due.is("check() with a coloured place", x.check(), Due.NO);
    }
}
