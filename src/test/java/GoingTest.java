/** Promises 16 to 19: going and what may be undone. */
public final class GoingTest {
    private static final Due due = new Due("GoingTest");

    public static void main(String[] args) {
        mayGo();
        urgentOnes();
        thingsOfKinds();
        going();
        thingsGoAndCome();
        fullPlaces();
        running();
        undoing();
        thePastIsShort();
        due.end();
    }

    private static void mayGo() {
        due.part("promise 16");
        NetHouse x = new NetHouse();
        x.place(0);
        x.step(0);
        due.is("may(0), asks nothing", x.may(0), 1);
        due.is("may(1)", x.may(1), Due.BAD);
        due.is("may(-1)", x.may(-1), Due.BAD);
        x.arc(0, 0, 2, 0);
        x.mark(0, 1);
        due.is("may(0), one too few", x.may(0), 0);
        x.mark(0, 2);
        due.is("may(0), just enough", x.may(0), 1);
    }

    private static void urgentOnes() {
        due.part("promise 16, urgent ones");
        NetHouse x = new NetHouse();
        x.place(0);
        x.place(0);
        for (int kind = 0; kind < 4; kind++) {
            x.step(kind);
        }
        x.step(3);
        x.arc(3, 0, 1, 0);
        x.arc(4, 1, 1, 0);
        due.is("may(0), no urgent one may", x.may(0), 1);
        due.is("may(3)", x.may(3), 0);
        x.mark(0, 1);
        for (int s = 0; s < 3; s++) {
            due.is("may(" + s + "), an urgent one may", x.may(s), 2);
            due.is("go(" + s + "), an urgent one may", x.go(s), Due.NO);
        }
        due.is("may(3)", x.may(3), 1);
        due.is("may(4), it may not", x.may(4), 0);
        x.mark(1, 1);
        due.is("may(3) beside another urgent one", x.may(3), 1);
        due.is("may(4) beside another urgent one", x.may(4), 1);
        due.is("go(4)", x.go(4), 0);
        due.is("go(3)", x.go(3), 0);
        due.is("go(2)", x.go(2), 0);
    }

    private static void thingsOfKinds() {
        due.part("promise 16, things");
        for (int want = 0; want < 4; want++) {
            for (int kind = 0; kind < 4; kind++) {
                NetHouse x = new NetHouse();
                x.place(1);
                x.step(0);
                x.arc(0, 0, 1, 0);
                x.want(0, 0, want, 0);
                x.thing(0, kind);
                boolean fits = want == 0 || want == kind || want == 1 && kind == 2;
                due.is("may(0) wanting " + want + " of " + kind, x.may(0), fits ? 1 : 0);
            }
        }
        NetHouse x = new NetHouse();
        x.place(1);
        x.step(1);
        x.arc(0, 0, 2, 0);
        x.want(0, 0, 2, 0);
        x.need(0, 0, 4);
        x.thing(0, 2);
        x.thing(0, 1);
        x.thing(0, 2);
        due.is("may(0), three where four are needed", x.may(0), 0);
        x.thing(0, 0);
        due.is("may(0), four of any kind", x.may(0), 1);
    }

    private static void going() {
        due.part("promise 17");
        NetHouse x = new NetHouse();
        x.place(0);
        x.place(0);
        x.step(0);
        x.arc(0, 0, 3, 1);
        x.arc(0, 1, 0, 9);
        x.mark(0, 5);
        due.is("go(1)", x.go(1), Due.BAD);
        due.is("go(-1)", x.go(-1), Due.BAD);
        due.is("go(0)", x.go(0), 0);
        due.is("many(0)", x.many(0), 3);
        due.is("many(1)", x.many(1), 9);
        due.is("go(0) again", x.go(0), 0);
        due.is("go(0) a third time", x.go(0), Due.NO);
        due.is("many(0) at last", x.many(0), 1);
        due.is("many(1) at last", x.many(1), 18);
        due.is("count(2)", x.count(2), 2);
        due.is("count(3)", x.count(3), 2);
    }

    private static void thingsGoAndCome() {
        due.part("promise 17, things");
        NetHouse x = new NetHouse();
        x.place(1);
        x.step(0);
        x.arc(0, 0, 2, 2);
        x.want(0, 0, 1, 3);
        for (int kind : new int[] {0, 2, 3, 1, 2}) {
            x.thing(0, kind);
        }
        due.is("go(0)", x.go(0), 0);
        kindsAre(x, 0, 0, 3, 2, 3, 3);
        due.is("go(0), one card or seal is left", x.go(0), Due.NO);
        due.is("back()", x.back(), 0);
        kindsAre(x, 0, 0, 2, 3, 1, 2);
    }

    private static void kindsAre(NetHouse x, int place, int... kinds) {
        due.is("many", x.many(place), kinds.length);
        for (int i = 0; i < kinds.length; i++) {
            due.is("kind(" + place + ", " + i + ")", x.kind(place, i), kinds[i]);
        }
    }

    private static void fullPlaces() {
        due.part("promise 17, full");
        NetHouse x = new NetHouse();
        x.place(1);
        x.place(0);
        x.step(0);
        x.step(0);
        x.arc(0, 0, 1, 1);
        x.arc(1, 0, 0, 1);
        x.arc(1, 1, 1, 0);
        x.mark(1, 1);
        for (int i = 0; i < 20; i++) {
            x.thing(0, 0);
        }
        due.is("go(0) of 20, as many as before", x.go(0), 0);
        due.is("go(1) of 20", x.go(1), Due.FULL);
        due.is("nothing went", x.many(1), 1);
        due.is("count(3)", x.count(3), 1);
        due.is("may(1)", x.may(1), 1);
        due.is("run(5), the least one goes on", x.run(5), 5);
        x.arc(0, 0, 0, 1);
        due.is("run(5), the least one is full", x.run(5), 0);
        x.mark(1, 0);
        x.sweep(0);
        due.is("run(100) until it is full", x.run(100), 20);
        due.is("go(1) where it does not go, and would be full", x.go(1), Due.NO);
    }

    private static void running() {
        due.part("promise 18");
        NetHouse x = new NetHouse();
        x.place(0);
        x.place(0);
        x.step(0);
        x.step(0);
        x.arc(0, 0, 1, 0);
        x.arc(0, 1, 0, 1);
        x.arc(1, 1, 2, 0);
        due.is("run(0)", x.run(0), Due.BAD);
        due.is("run(-1)", x.run(-1), Due.BAD);
        due.is("run(1001)", x.run(1001), Due.BAD);
        due.is("run(1000), nothing goes", x.run(1000), 0);
        x.mark(0, 5);
        due.is("run(1)", x.run(1), 1);
        due.is("many(1)", x.many(1), 1);
        due.is("run(1000)", x.run(1000), 6);
        due.is("many(0)", x.many(0), 0);
        due.is("many(1)", x.many(1), 1);
        due.is("count(3)", x.count(3), 7);
        due.is("back(), the least ones went first", x.back(), 1);
        due.is("back()", x.back(), 1);
        due.is("back()", x.back(), 0);
        x.step(3);
        x.arc(2, 0, 1, 0);
        x.mark(0, 3);
        due.is("run(3), the urgent one first", x.run(3), 3);
        due.is("back() of the urgent one", x.back(), 2);
    }

    private static void undoing() {
        due.part("promise 19");
        NetHouse x = new NetHouse();
        x.place(0);
        x.place(1);
        x.step(0);
        x.step(0);
        x.arc(0, 0, 2, 0);
        x.arc(0, 1, 0, 1);
        x.want(0, 1, 0, 2);
        x.arc(1, 1, 1, 0);
        x.mark(0, 5);
        x.thing(1, 1);
        due.is("back() of nothing", x.back(), Due.NO);
        x.go(0);
        x.go(1);
        x.go(0);
        kindsAre(x, 1, 2, 2);
        due.is("back()", x.back(), 0);
        due.is("many(0)", x.many(0), 3);
        kindsAre(x, 1, 2);
        due.is("back()", x.back(), 1);
        kindsAre(x, 1, 1, 2);
        due.is("count(2)", x.count(2), 1);
        due.is("count(3), undone ones too", x.count(3), 3);
        x.go(1);
        due.is("back() of the newest", x.back(), 1);
        due.is("back() of the oldest", x.back(), 0);
        due.is("many(0)", x.many(0), 5);
        kindsAre(x, 1, 1);
        due.is("back() of nothing more", x.back(), Due.NO);
        due.is("count(3)", x.count(3), 4);
    }

    private static void thePastIsShort() {
        due.part("promise 19, 256 goings");
        NetHouse x = new NetHouse();
        x.place(0);
        x.step(0);
        x.arc(0, 0, 1, 0);
        x.mark(0, 1000000);
        due.is("run(300)", x.run(300), 300);
        due.is("count(2)", x.count(2), 256);
        for (int i = 1; i <= 10; i++) {
            due.is("back()", x.back(), 0);
        }
        due.is("count(2) behind 10 undone", x.count(2), 246);
        due.is("run(4)", x.run(4), 4);
        due.is("count(2) behind 4 more", x.count(2), 250);
        for (int i = 0; i < 250; i++) {
            due.is("back()", x.back(), 0);
        }
        due.is("back() of what is forgotten", x.back(), Due.NO);
        due.is("many(0)", x.many(0), 1000000 - 44);
        due.is("count(3)", x.count(3), 304);
    }
}
