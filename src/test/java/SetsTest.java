/** Promises 50 to 56: drains and traps, and count. */
public final class SetsTest {
    private static final Due due = new Due("SetsTest");

    public static void main(String[] args) {
        least();
        manySets();
        moreThanAreTold();
        single();
        greatestOnes();
        freeNets();
        bareOnes();
        counts();
        due.end();
    }

    private static NetHouse net(int places, int steps) {
        NetHouse x = new NetHouse();
        for (int p = 0; p < places; p++) {
            x.place(0);
        }
        for (int s = 0; s < steps; s++) {
            x.step(0);
        }
        return x;
    }

    private static void move(NetHouse x, int step, int from, int to) {
        x.arc(step, from, 1, 0);
        x.arc(step, to, 0, 1);
    }

    /** Two rings, 0 and 3, 1 and 2, and place 4 into which step 0 puts. */
    private static NetHouse rings() {
        NetHouse x = net(5, 4);
        move(x, 0, 0, 3);
        move(x, 1, 3, 0);
        move(x, 2, 1, 2);
        move(x, 3, 2, 1);
        x.arc(0, 4, 0, 1);
        return x;
    }

    private static void setsAre(NetHouse x, int... bits) {
        due.is("count(10)", x.count(10), bits.length);
        for (int k = 0; k < bits.length; k++) {
            due.is("bits(" + k + ")", x.bits(k), bits[k]);
        }
        due.is("bits(" + bits.length + ")", x.bits(bits.length), Due.BAD);
    }

    private static void least() {
        due.part("promises 50 and 51");
        NetHouse x = rings();
        due.is("bits(0) before there are sets", x.bits(0), Due.BAD);
        due.is("sets(0, 500)", x.sets(0, 500), 2);
        setsAre(x, 6, 9);
        due.is("bits(-1)", x.bits(-1), Due.BAD);
        due.is("sets(1, 500)", x.sets(1, 500), 3);
        setsAre(x, 6, 9, 16);
        due.is("sets(1, 2)", x.sets(1, 2), 2);
        setsAre(x, 6, 9);
        due.is("sets(2, 9)", x.sets(2, 9), Due.BAD);
        due.is("sets(-1, 9)", x.sets(-1, 9), Due.BAD);
        due.is("sets(0, 0)", x.sets(0, 0), Due.BAD);
        due.is("sets(0, 501)", x.sets(0, 501), Due.BAD);
        due.is("they stay by a refusal", x.count(10), 2);
        x.mark(0, 1);
        due.is("and when marks are told", x.count(10), 2);
        due.is("sets(0, 1)", x.sets(0, 1), 1);
        setsAre(x, 6);
        x.arc(3, 4, 0, 0);
        due.is("bits(0) when the net changes", x.bits(0), Due.BAD);
        NetHouse y = net(16, 0);
        due.is("sets(0, 500) of places alone", y.sets(0, 500), 16);
        due.is("bits(15)", y.bits(15), 1 << 15);
        NetHouse z = net(1, 1);
        z.arc(0, 0, 0, 1);
        due.is("sets(0, 9), what is filled from nowhere", z.sets(0, 9), 0);
        due.is("sets(1, 9), what is filled from nowhere", z.sets(1, 9), 1);
    }

    /** Place 0 comes of each of five triples and they of it: a least drain has 0 and one of each triple. */
    private static void manySets() {
        due.part("promise 50, many sets");
        NetHouse x = net(16, 6);
        for (int t = 0; t < 5; t++) {
            x.arc(t, 0, 0, 1);
            for (int i = 0; i < 3; i++) {
                x.arc(t, 1 + 3 * t + i, 1, 0);
                x.arc(5, 1 + 3 * t + i, 0, 1);
            }
        }
        x.arc(5, 0, 1, 0);
        due.is("sets(0, 500)", x.sets(0, 500), 243);
        due.is("bits(0)", x.bits(0), 1 | 1 << 1 | 1 << 4 | 1 << 7 | 1 << 10 | 1 << 13);
        due.is("bits(1)", x.bits(1), 1 | 1 << 2 | 1 << 4 | 1 << 7 | 1 << 10 | 1 << 13);
        due.is("bits(242)", x.bits(242), 1 | 1 << 3 | 1 << 6 | 1 << 9 | 1 << 12 | 1 << 15);
        for (int k = 1; k < 243; k++) {
            due.holds("they come by their bits", x.bits(k - 1) < x.bits(k));
        }
        due.is("sets(0, 100)", x.sets(0, 100), 100);
        due.is("bits(99)", x.bits(99) > 0 ? 1 : 0, 1);
        due.is("bits(100)", x.bits(100), Due.BAD);
    }

    /** Every step puts everywhere: a drain has one of each of sixteen fours, and there are more than 500 least ones. */
    private static void moreThanAreTold() {
        due.part("promises 50 and 55, more sets than are told");
        NetHouse x = net(16, 16);
        int[] fours = new int[16];
        for (int s = 0; s < 16; s++) {
            for (int p = 0; p < 16; p++) {
                int apart = (p - s + 16) % 16;
                boolean takes = apart < 3 || apart == 4;
                fours[s] |= takes ? 1 << p : 0;
                x.arc(s, p, takes ? 1 : 0, 1);
            }
            x.mark(s, 1);
        }
        due.is("sets(0, 500)", x.sets(0, 500), 500);
        int found = 0;
        int latest = 0;
        for (int set = 1; set < 1 << 16; set++) {
            if (meetsEachLeast(set, fours)) {
                if (found < 500) {
                    due.is("bits(" + found + ")", x.bits(found), set);
                }
                found++;
                latest = set;
            }
        }
        due.holds("there are more", found > 500);
        due.is("bits(500)", x.bits(500), Due.BAD);
        due.is("sets(0, 499)", x.sets(0, 499), 499);
        due.is("bare(), each holds", x.bare(), 0);
        for (int p = 0; p < 16; p++) {
            x.mark(p, (latest >> p & 1) == 1 ? 0 : 1);
        }
        due.is("bare(), the last one by its bits holds not", x.bare(), latest);
    }

    private static boolean meetsEachLeast(int set, int[] fours) {
        if (!meetsEach(set, fours)) {
            return false;
        }
        for (int p = 0; p < 16; p++) {
            if ((set >> p & 1) == 1 && meetsEach(set & ~(1 << p), fours)) {
                return false;
            }
        }
        return true;
    }

    private static boolean meetsEach(int set, int[] fours) {
        for (int four : fours) {
            if ((set & four) == 0) {
                return false;
            }
        }
        return true;
    }

    private static void single() {
        due.part("promise 52");
        NetHouse x = rings();
        due.is("isSet(9, 0)", x.isSet(9, 0), 1);
        due.is("isSet(15, 0)", x.isSet(15, 0), 1);
        due.is("isSet(1, 0)", x.isSet(1, 0), 0);
        due.is("isSet(16, 0)", x.isSet(16, 0), 0);
        due.is("isSet(16, 1)", x.isSet(16, 1), 1);
        due.is("isSet(17, 0)", x.isSet(17, 0), 0);
        due.is("isSet(17, 1)", x.isSet(17, 1), 1);
        due.is("isSet(24, 1)", x.isSet(24, 1), 0);
        due.is("isSet(0, 0)", x.isSet(0, 0), 0);
        due.is("isSet(0, 1)", x.isSet(0, 1), 0);
        due.is("isSet(31, 0)", x.isSet(31, 0), 1);
        due.is("isSet(32, 0)", x.isSet(32, 0), Due.BAD);
        due.is("isSet(-1, 0)", x.isSet(-1, 0), Due.BAD);
        due.is("isSet(9, 2)", x.isSet(9, 2), Due.BAD);
        due.is("isSet(9, -1)", x.isSet(9, -1), Due.BAD);
        NetHouse y = net(16, 0);
        due.is("isSet(65535, 1)", y.isSet(65535, 1), 1);
        due.is("isSet(65536, 1)", y.isSet(65536, 1), Due.BAD);
    }

    private static void greatestOnes() {
        due.part("promise 53");
        NetHouse x = rings();
        due.is("greatest(31, 0)", x.greatest(31, 0), 31);
        due.is("greatest(30, 0)", x.greatest(30, 0), 6);
        due.is("greatest(30, 1)", x.greatest(30, 1), 22);
        due.is("greatest(8, 0)", x.greatest(8, 0), 0);
        due.is("greatest(0, 1)", x.greatest(0, 1), 0);
        due.is("greatest(32, 0)", x.greatest(32, 0), Due.BAD);
        due.is("greatest(-1, 1)", x.greatest(-1, 1), Due.BAD);
        due.is("greatest(1, 2)", x.greatest(1, 2), Due.BAD);
        NetHouse line = net(16, 16);
        for (int s = 0; s < 15; s++) {
            move(line, s, 15 - s, 14 - s);
        }
        line.arc(15, 15, 0, 9);
        due.is("greatest(65535, 0), one place gives way behind the other", line.greatest(65535, 0), 0);
        due.is("greatest(65535, 1)", line.greatest(65535, 1), 65535);
    }

    private static void freeNets() {
        due.part("promise 54");
        NetHouse x = net(2, 2);
        due.is("free(), nothing takes", x.free(), 0);
        move(x, 0, 0, 1);
        due.is("free(), nothing takes from the other", x.free(), 0);
        move(x, 1, 1, 0);
        due.is("free() of a ring", x.free(), 1);
        x.step(0);
        x.arc(2, 0, 1, 0);
        due.is("free() of a choice", x.free(), 1);
        x.arc(2, 1, 0, 2);
        due.is("free(), 2 are put", x.free(), 0);
        x.arc(2, 1, 1, 0);
        due.is("free(), a choice that is not free", x.free(), 0);
        x.arc(0, 0, 0, 0);
        x.arc(1, 1, 0, 0);
        due.is("free() of a meeting", x.free(), 1);
        x.arc(2, 1, 2, 0);
        due.is("free(), 2 are taken", x.free(), 0);
        x.arc(2, 1, 1, 1);
        due.is("free(), taken and put back", x.free(), 1);
        x.step(1);
        due.is("free() with a guarded step", x.free(), 0);
        NetHouse y = net(0, 1);
        due.is("free() without places", y.free(), 1);
        y.place(1);
        y.arc(0, 0, 1, 0);
        due.is("free() with a coloured place", y.free(), 0);
    }

    private static void bareOnes() {
        due.part("promise 55");
        NetHouse x = rings();
        due.is("bare() of empty rings", x.bare(), 6);
        x.mark(1, 1);
        due.is("bare(), the second one", x.bare(), 9);
        x.mark(3, 1);
        due.is("bare(), none", x.bare(), 0);
        NetHouse y = net(2, 1);
        move(y, 0, 0, 1);
        y.mark(0, 5);
        due.is("bare(), a drain without a trap", y.bare(), 1);
        y.sets(1, 9);
        y.bare();
        due.is("bare() leaves the sets", y.bits(0), 2);
        NetHouse z = net(2, 3);
        // the least drain is 0 1, the greatest trap within it 0 alone
        move(z, 0, 1, 0);
        z.arc(1, 0, 1, 1);
        z.arc(1, 1, 0, 1);
        z.arc(2, 1, 1, 0);
        z.mark(1, 1);
        due.is("greatest(3, 1)", z.greatest(3, 1), 1);
        due.is("bare(), the drain holds, the trap does not", z.bare(), 3);
        z.mark(0, 1);
        due.is("bare(), the trap holds", z.bare(), 0);
        NetHouse things = new NetHouse();
        things.place(1);
        due.is("bare() of an empty coloured place", things.bare(), 1);
        things.thing(0, 3);
        due.is("bare() of a thing", things.bare(), 0);
    }

    private static void counts() {
        due.part("promise 56");
        NetHouse x = rings();
        x.mark(0, 1);
        x.mark(1, 1);
        x.run(6);
        x.back();
        x.row(7);
        x.lay(0);
        x.lay(0);
        x.lay(0);
        // the first ring puts something into place 4 each time round
        int[] before = {5, 4, 5, 6, 7, 3, 0, 0, 0, 0, 0};
        for (int what = 0; what <= 10; what++) {
            due.is("count(" + what + ")", x.count(what), before[what]);
        }
        x.arc(0, 4, 0, 0);
        x.field(99);
        x.tree(99);
        x.weights();
        x.rounds();
        x.sets(1, 99);
        int[] behind = {5, 4, 0, 6, 7, 3, 4, 9, 3, 2, 3};
        for (int what = 0; what <= 10; what++) {
            due.is("count(" + what + ") behind all", x.count(what), behind[what]);
        }
        due.is("count(-1)", x.count(-1), Due.BAD);
        due.is("count(11)", x.count(11), Due.BAD);
    }
}
