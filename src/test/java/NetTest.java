/** Promises 1 to 9: the net. */
public final class NetTest {
    private static final Due due = new Due("NetTest");

    public static void main(String[] args) {
        newObject();
        places();
        steps();
        arcs();
        needs();
        closings();
        wants();
        asking();
        kinds();
        changesOfTheNet();
        due.end();
    }

    private static void newObject() {
        due.part("promise 1");
        NetHouse x = new NetHouse();
        for (int what = 0; what <= 10; what++) {
            due.is("count(" + what + ")", x.count(what), 0);
        }
        due.is("many(0)", x.many(0), Due.BAD);
        due.is("share(0)", x.share(0), Due.BAD);
        due.is("may(0)", x.may(0), Due.BAD);
        due.is("go(0)", x.go(0), Due.BAD);
        due.is("run(1)", x.run(1), 0);
        due.is("back()", x.back(), Due.NO);
        due.is("get(0)", x.get(0), Due.BAD);
        due.is("walk(0)", x.walk(0), Due.BAD);
        due.is("check()", x.check(), 0);
        due.is("find()", x.find(), Due.NO);
        due.is("cover()", x.cover(), Due.NO);
        due.is("pump()", x.pump(), Due.NO);
        due.is("fault()", x.fault(), Due.NONE);
        due.is("bits(0)", x.bits(0), Due.BAD);
        due.is("weight(0, 0)", x.weight(0, 0), Due.BAD);
        due.is("round(0, 0)", x.round(0, 0), Due.BAD);
        due.is("free()", x.free(), 1);
        due.is("bare()", x.bare(), 0);
        due.is("keeps()", x.keeps(), 1);
        due.is("turns()", x.turns(), 1);
        due.is("isSet(0, 0)", x.isSet(0, 0), 0);
        due.is("isSet(1, 0)", x.isSet(1, 0), Due.BAD);
        due.is("greatest(0, 1)", x.greatest(0, 1), 0);
        due.is("weights()", x.weights(), 0);
        due.is("rounds()", x.rounds(), 0);
        due.is("sets(0, 1)", x.sets(0, 1), 0);
        due.is("field(1)", x.field(1), 1);
        due.is("dead(0)", x.dead(0), 0);
        due.is("home(0)", x.home(0), 1);
        due.is("find()", x.find(), 0);
        due.is("tree(1)", x.tree(1), 1);
        due.is("cover()", x.cover(), 0);
        due.is("pump()", x.pump(), Due.NONE);
    }

    private static void places() {
        due.part("promise 2");
        NetHouse x = new NetHouse();
        due.is("place(-1)", x.place(-1), Due.BAD);
        due.is("place(2)", x.place(2), Due.BAD);
        for (int p = 0; p < 16; p++) {
            due.is("place", x.place(p % 2), p);
        }
        due.is("place(0) as the 17th", x.place(0), Due.FULL);
        due.is("place(1) as the 17th", x.place(1), Due.FULL);
        due.is("place(2) as the 17th", x.place(2), Due.BAD);
        due.is("count(0)", x.count(0), 16);
        due.is("mark(14, 1)", x.mark(14, 1), 0);
        due.is("mark(15, 1)", x.mark(15, 1), Due.NO);
        due.is("mark(16, 1)", x.mark(16, 1), Due.BAD);
    }

    private static void steps() {
        due.part("promise 3");
        NetHouse x = new NetHouse();
        due.is("step(-1)", x.step(-1), Due.BAD);
        due.is("step(4)", x.step(4), Due.BAD);
        for (int s = 0; s < 16; s++) {
            due.is("step", x.step(s % 4), s);
        }
        due.is("step(0) as the 17th", x.step(0), Due.FULL);
        due.is("step(4) as the 17th", x.step(4), Due.BAD);
        due.is("count(1)", x.count(1), 16);
    }

    private static void arcs() {
        due.part("promise 4");
        NetHouse x = new NetHouse();
        due.is("arc without a net", x.arc(0, 0, 1, 1), Due.BAD);
        x.place(0);
        due.is("arc without a step", x.arc(0, 0, 1, 1), Due.BAD);
        x.step(0);
        x.place(1);
        due.is("arc(0, 0, 9, 0)", x.arc(0, 0, 9, 0), 0);
        due.is("arc(0, 1, 0, 9)", x.arc(0, 1, 0, 9), 0);
        due.is("arc(0, 0, 10, 0)", x.arc(0, 0, 10, 0), Due.BAD);
        due.is("arc(0, 0, -1, 0)", x.arc(0, 0, -1, 0), Due.BAD);
        due.is("arc(0, 0, 0, 10)", x.arc(0, 0, 0, 10), Due.BAD);
        due.is("arc(0, 0, 0, -1)", x.arc(0, 0, 0, -1), Due.BAD);
        due.is("arc(1, 0, 0, 0)", x.arc(1, 0, 0, 0), Due.BAD);
        due.is("arc(-1, 0, 0, 0)", x.arc(-1, 0, 0, 0), Due.BAD);
        due.is("arc(0, 2, 0, 0)", x.arc(0, 2, 0, 0), Due.BAD);
        due.is("arc(0, -1, 0, 0)", x.arc(0, -1, 0, 0), Due.BAD);
        due.is("asks(0, 0, 0)", x.asks(0, 0, 0), 9);
        due.is("asks(0, 0, 1)", x.asks(0, 0, 1), 0);
        due.is("asks(0, 1, 0)", x.asks(0, 1, 0), 0);
        due.is("asks(0, 1, 1)", x.asks(0, 1, 1), 9);
        x.arc(0, 0, 3, 4);
        due.is("asks(0, 0, 0) told again", x.asks(0, 0, 0), 3);
        due.is("asks(0, 0, 1) told again", x.asks(0, 0, 1), 4);
    }

    private static void needs() {
        due.part("promise 5");
        NetHouse x = new NetHouse();
        x.place(0);
        x.place(1);
        for (int kind = 0; kind < 4; kind++) {
            x.step(kind);
        }
        due.is("need of a plain step", x.need(0, 0, 1), Due.NO);
        due.is("need of a plain step, 10", x.need(0, 0, 10), Due.BAD);
        due.is("need(0, 2, 1)", x.need(0, 2, 1), Due.BAD);
        due.is("need(4, 0, 1)", x.need(4, 0, 1), Due.BAD);
        due.is("need(1, 0, -1)", x.need(1, 0, -1), Due.BAD);
        due.is("need(1, 0, 10)", x.need(1, 0, 10), Due.BAD);
        due.is("need(1, 0, 9)", x.need(1, 0, 9), 0);
        due.is("need(2, 1, 2)", x.need(2, 1, 2), 0);
        due.is("need(3, 1, 3)", x.need(3, 1, 3), 0);
        due.is("asks(0, 0, 2)", x.asks(0, 0, 2), 0);
        due.is("asks(1, 0, 2)", x.asks(1, 0, 2), 9);
        due.is("asks(2, 1, 2)", x.asks(2, 1, 2), 2);
        due.is("asks(3, 1, 2)", x.asks(3, 1, 2), 3);
        due.is("asks(3, 0, 2)", x.asks(3, 0, 2), 0);
        x.mark(0, 8);
        due.is("may(1) below its need", x.may(1), 0);
        x.mark(0, 9);
        due.is("may(1) at its need", x.may(1), 1);
        due.is("go(1)", x.go(1), 0);
        due.is("a need takes nothing", x.many(0), 9);
    }

    private static void closings() {
        due.part("promise 6");
        NetHouse x = new NetHouse();
        x.place(0);
        x.place(1);
        for (int kind = 0; kind < 4; kind++) {
            x.step(kind);
        }
        due.is("close of a plain step", x.close(0, 0, 1), Due.NO);
        due.is("close of a guarded step", x.close(1, 0, 1), Due.NO);
        due.is("close of a guarded step, 2", x.close(1, 0, 2), Due.BAD);
        due.is("close(2, 0, -1)", x.close(2, 0, -1), Due.BAD);
        due.is("close(4, 0, 1)", x.close(4, 0, 1), Due.BAD);
        due.is("close(2, 2, 1)", x.close(2, 2, 1), Due.BAD);
        due.is("close(2, 0, 1)", x.close(2, 0, 1), 0);
        due.is("close(2, 1, 1)", x.close(2, 1, 1), 0);
        due.is("close(3, 0, 1)", x.close(3, 0, 1), 0);
        due.is("asks(2, 0, 3)", x.asks(2, 0, 3), 1);
        due.is("asks(3, 1, 3)", x.asks(3, 1, 3), 0);
        due.is("may(2), empty", x.may(2), 2);
        due.is("may(3), empty", x.may(3), 1);
        x.mark(0, 1);
        due.is("may(2), a mark", x.may(2), 0);
        due.is("may(3), a mark", x.may(3), 0);
        due.is("may(0), no urgent one may", x.may(0), 1);
        due.is("close(2, 0, 0)", x.close(2, 0, 0), 0);
        due.is("may(2), opened", x.may(2), 1);
        x.thing(1, 3);
        due.is("may(2), a thing", x.may(2), 0);
    }

    private static void wants() {
        due.part("promise 7");
        NetHouse x = new NetHouse();
        x.place(0);
        x.place(1);
        x.step(0);
        due.is("want at a plain place", x.want(0, 0, 1, 1), Due.NO);
        due.is("want at a plain place, 4", x.want(0, 0, 4, 1), Due.BAD);
        due.is("want(0, 1, -1, 0)", x.want(0, 1, -1, 0), Due.BAD);
        due.is("want(0, 1, 4, 0)", x.want(0, 1, 4, 0), Due.BAD);
        due.is("want(0, 1, 0, -1)", x.want(0, 1, 0, -1), Due.BAD);
        due.is("want(0, 1, 0, 4)", x.want(0, 1, 0, 4), Due.BAD);
        due.is("want(1, 1, 0, 0)", x.want(1, 1, 0, 0), Due.BAD);
        due.is("want(0, 2, 0, 0)", x.want(0, 2, 0, 0), Due.BAD);
        due.is("asks(0, 1, 4) at first", x.asks(0, 1, 4), 0);
        due.is("want(0, 1, 3, 2)", x.want(0, 1, 3, 2), 0);
        due.is("asks(0, 1, 4)", x.asks(0, 1, 4), 3);
        due.is("asks(0, 1, 5)", x.asks(0, 1, 5), 2);
        due.is("asks(0, 0, 4)", x.asks(0, 0, 4), 0);
        due.is("asks(0, 0, 5)", x.asks(0, 0, 5), 0);
    }

    private static void asking() {
        due.part("promise 8");
        NetHouse x = new NetHouse();
        x.place(0);
        x.step(3);
        for (int what = 0; what <= 5; what++) {
            due.is("asks(0, 0, " + what + ")", x.asks(0, 0, what), 0);
        }
        due.is("asks(0, 0, 6)", x.asks(0, 0, 6), Due.BAD);
        due.is("asks(0, 0, -1)", x.asks(0, 0, -1), Due.BAD);
        due.is("asks(1, 0, 0)", x.asks(1, 0, 0), Due.BAD);
        due.is("asks(-1, 0, 0)", x.asks(-1, 0, 0), Due.BAD);
        due.is("asks(0, 1, 0)", x.asks(0, 1, 0), Due.BAD);
        due.is("asks(0, -1, 0)", x.asks(0, -1, 0), Due.BAD);
        x.arc(0, 0, 1, 2);
        x.need(0, 0, 3);
        x.close(0, 0, 1);
        due.is("takes", x.asks(0, 0, 0), 1);
        due.is("puts", x.asks(0, 0, 1), 2);
        due.is("need", x.asks(0, 0, 2), 3);
        due.is("closed", x.asks(0, 0, 3), 1);
    }

    private static void kinds() {
        due.part("promise 9");
        NetHouse x = new NetHouse();
        for (int kind = 0; kind < 4; kind++) {
            x.step(kind);
        }
        for (int step = 0; step < 4; step++) {
            for (int kind = 0; kind < 4; kind++) {
                due.is("isOf(" + step + ", " + kind + ")", x.isOf(step, kind), kind <= step ? 1 : 0);
            }
        }
        due.is("isOf(0, -1)", x.isOf(0, -1), Due.BAD);
        due.is("isOf(0, 4)", x.isOf(0, 4), Due.BAD);
        due.is("isOf(4, 0)", x.isOf(4, 0), Due.BAD);
        due.is("isOf(-1, 0)", x.isOf(-1, 0), Due.BAD);
    }

    /** Each change of the net, also to what was, takes away all that was found of it. */
    private static void changesOfTheNet() {
        due.part("the net changes");
        for (int change = 0; change < 6; change++) {
            NetHouse x = full();
            due.is("all found", found(x), 1);
            int answer = switch (change) {
                case 0 -> x.place(0);
                case 1 -> x.step(0);
                case 2 -> x.arc(0, 0, 1, 1);
                case 3 -> x.need(1, 0, 0);
                case 4 -> x.arc(5, 0, 1, 1);
                default -> x.close(0, 0, 1);
            };
            boolean refused = change > 3;
            due.is("change " + change + " refused", answer < 0 ? 1 : 0, refused ? 1 : 0);
            for (int what : new int[] {2, 6, 7, 8, 9, 10}) {
                due.is("count(" + what + ") behind change " + change, x.count(what) > 0 ? 1 : 0, refused ? 1 : 0);
            }
            due.is("goings in all stay", x.count(3), 1);
            due.is("THE ROW stays", x.count(4), 2);
            due.is("THE WAY stays", x.count(5), 1);
        }
        closingAndWantingChange();
    }

    private static void closingAndWantingChange() {
        NetHouse x = new NetHouse();
        x.place(1);
        x.step(2);
        x.go(0);
        x.weights();
        due.is("count(2)", x.count(2), 1);
        due.is("count(8)", x.count(8), 1);
        x.want(0, 0, 0, 0);
        due.is("count(2) behind want", x.count(2), 0);
        due.is("count(8) behind want", x.count(8), 0);
        x.go(0);
        x.weights();
        x.close(0, 0, 0);
        due.is("count(2) behind close", x.count(2), 0);
        due.is("count(8) behind close", x.count(8), 0);
    }

    private static NetHouse full() {
        NetHouse x = new NetHouse();
        x.place(0);
        x.step(0);
        x.step(1);
        x.arc(0, 0, 1, 1);
        x.mark(0, 1);
        x.go(0);
        x.row(2);
        x.lay(0);
        x.field(9);
        x.tree(9);
        x.weights();
        x.rounds();
        x.sets(0, 9);
        return x;
    }

    private static int found(NetHouse x) {
        for (int what : new int[] {2, 6, 7, 8, 9, 10}) {
            if (x.count(what) <= 0) {
                return 0;
            }
        }
        return 1;
    }
}
