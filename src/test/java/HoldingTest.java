/** Promises 10 to 15: what there is. */
public final class HoldingTest {
    private static final Due due = new Due("HoldingTest");

    public static void main(String[] args) {
        marks();
        things();
        sweeping();
        howMany();
        kinds();
        shares();
        pastIsEmptied();
        due.end();
    }

    /** Place 0 is plain, place 1 coloured; the step asks nothing. */
    private static NetHouse pair() {
        NetHouse x = new NetHouse();
        x.place(0);
        x.place(1);
        x.step(0);
        return x;
    }

    private static void marks() {
        due.part("promise 10");
        NetHouse x = pair();
        due.is("mark(0, 1000000)", x.mark(0, 1000000), 0);
        due.is("mark(0, 1000001)", x.mark(0, 1000001), Due.BAD);
        due.is("mark(0, -1)", x.mark(0, -1), Due.BAD);
        due.is("mark(2, 0)", x.mark(2, 0), Due.BAD);
        due.is("mark(-1, 0)", x.mark(-1, 0), Due.BAD);
        due.is("mark(1, 0)", x.mark(1, 0), Due.NO);
        due.is("mark(1, -1)", x.mark(1, -1), Due.BAD);
        due.is("mark(0, 0)", x.mark(0, 0), 1000000);
        due.is("mark(0, 7)", x.mark(0, 7), 0);
        due.is("many(0)", x.many(0), 7);
    }

    private static void things() {
        due.part("promise 11");
        NetHouse x = pair();
        due.is("thing(0, 0)", x.thing(0, 0), Due.NO);
        due.is("thing(0, 4)", x.thing(0, 4), Due.BAD);
        due.is("thing(1, -1)", x.thing(1, -1), Due.BAD);
        due.is("thing(1, 4)", x.thing(1, 4), Due.BAD);
        due.is("thing(2, 0)", x.thing(2, 0), Due.BAD);
        due.is("thing(-1, 0)", x.thing(-1, 0), Due.BAD);
        for (int i = 0; i < 20; i++) {
            due.is("thing", x.thing(1, (i * 7 + i / 4) % 4), i + 1);
        }
        due.is("thing as the 21st", x.thing(1, 0), Due.FULL);
        due.is("thing of no kind as the 21st", x.thing(1, 4), Due.BAD);
        for (int i = 0; i < 20; i++) {
            due.is("kind(1, " + i + ")", x.kind(1, i), (i * 7 + i / 4) % 4);
        }
    }

    private static void sweeping() {
        due.part("promise 12");
        NetHouse x = pair();
        x.thing(1, 3);
        x.thing(1, 3);
        due.is("sweep(0)", x.sweep(0), Due.NO);
        due.is("sweep(2)", x.sweep(2), Due.BAD);
        due.is("sweep(-1)", x.sweep(-1), Due.BAD);
        due.is("sweep(1)", x.sweep(1), 2);
        due.is("sweep(1) again", x.sweep(1), 0);
        due.is("kind(1, 0)", x.kind(1, 0), Due.BAD);
        x.thing(1, 1);
        due.is("kind(1, 0) of a new one", x.kind(1, 0), 1);
    }

    private static void howMany() {
        due.part("promise 13");
        NetHouse x = pair();
        x.mark(0, 5);
        x.thing(1, 2);
        due.is("many(0)", x.many(0), 5);
        due.is("many(1)", x.many(1), 1);
        due.is("many(2)", x.many(2), Due.BAD);
        due.is("many(-1)", x.many(-1), Due.BAD);
        due.is("many of the least number", x.many(Integer.MIN_VALUE), Due.BAD);
    }

    private static void kinds() {
        due.part("promise 14");
        NetHouse x = pair();
        x.mark(0, 5);
        for (int kind = 3; kind >= 0; kind--) {
            x.thing(1, kind);
        }
        for (int i = 0; i < 4; i++) {
            due.is("kind(1, " + i + ")", x.kind(1, i), 3 - i);
        }
        due.is("kind(1, 4)", x.kind(1, 4), Due.BAD);
        due.is("kind(1, -1)", x.kind(1, -1), Due.BAD);
        due.is("kind(2, 0)", x.kind(2, 0), Due.BAD);
        due.is("kind(-1, 0)", x.kind(-1, 0), Due.BAD);
        due.is("kind(0, 0)", x.kind(0, 0), Due.NO);
        due.is("kind(0, -1)", x.kind(0, -1), Due.NO);
        due.is("kind(0, 99)", x.kind(0, 99), Due.NO);
    }

    private static void shares() {
        due.part("promise 15");
        NetHouse x = pair();
        due.is("share(0) of nothing", x.share(0), Due.NO);
        due.is("share(2) of nothing", x.share(2), Due.BAD);
        x.thing(1, 0);
        due.is("share(0)", x.share(0), 0);
        due.is("share(1)", x.share(1), 1000);
        x.mark(0, 2);
        due.is("share(0) of 2 in 3", x.share(0), 666);
        due.is("share(1) of 1 in 3", x.share(1), 333);
        x.mark(0, 1000000);
        due.is("share(0), cut down", x.share(0), 999);
        due.is("share(1), cut down", x.share(1), 0);
        due.is("share(-1)", x.share(-1), Due.BAD);
        NetHouse wide = new NetHouse();
        for (int p = 0; p < 16; p++) {
            wide.place(0);
            wide.mark(p, 1000000);
        }
        due.is("share(15) of 16 alike", wide.share(15), 62);
    }

    private static void pastIsEmptied() {
        due.part("THE PAST, told from without");
        for (int way = 0; way < 7; way++) {
            NetHouse x = pair();
            x.go(0);
            due.is("count(2)", x.count(2), 1);
            int answer = switch (way) {
                case 0 -> x.mark(0, 0);
                case 1 -> x.thing(1, 0);
                case 2 -> x.sweep(1);
                case 3 -> x.mark(1, 0);
                case 4 -> x.thing(0, 0);
                case 5 -> x.sweep(0);
                default -> x.mark(0, -1);
            };
            due.is("refused, way " + way, answer < 0 ? 1 : 0, way > 2 ? 1 : 0);
            due.is("count(2), way " + way, x.count(2), way > 2 ? 1 : 0);
            due.is("back(), way " + way, x.back(), way > 2 ? 0 : Due.NO);
        }
    }
}
