/** Promises 38 to 43: the tree. */
public final class TreeTest {
    private static final Due due = new Due("TreeTest");

    public static void main(String[] args) {
        making();
        refusals();
        nodes();
        comparedAllTheWayUp();
        standing();
        needsInATree();
        covering();
        bounds();
        pumping();
        pumpingLate();
        due.end();
    }

    /** Two marks go, each by a step of its own, into place 2. */
    private static NetHouse meeting() {
        NetHouse x = new NetHouse();
        for (int i = 0; i < 3; i++) {
            x.place(0);
        }
        for (int s = 0; s < 2; s++) {
            x.step(0);
            x.arc(s, s, 1, 0);
            x.arc(s, 2, 0, 1);
            x.mark(s, 1);
        }
        return x;
    }

    private static void making() {
        due.part("promise 38");
        NetHouse x = meeting();
        due.is("tree(0)", x.tree(0), Due.BAD);
        due.is("tree(2001)", x.tree(2001), Due.BAD);
        due.is("tree(5)", x.tree(5), 5);
        due.is("tree(0) again", x.tree(0), Due.BAD);
        due.is("it stays by a refusal", x.count(7), 5);
        due.is("tree(4)", x.tree(4), Due.SPENT);
        due.is("there is none then", x.count(7), 0);
        due.is("node(0, 0)", x.node(0, 0), Due.NO);
        due.is("tree(2000)", x.tree(2000), 5);
        x.mark(0, 0);
        due.is("it stays when marks are told", x.node(0, 0), 1);
        due.is("tree(9) of what there is now", x.tree(9), 2);
        NetHouse y = new NetHouse();
        y.place(0);
        y.step(0);
        y.arc(0, 0, 1, 0);
        y.mark(0, 1999);
        due.is("tree(1999) of 2000", y.tree(1999), Due.SPENT);
        due.is("tree(2000) of 2000", y.tree(2000), 2000);
        due.is("node(1999, 0)", y.node(1999, 0), 0);
        y.mark(0, 2000);
        due.is("tree(2000) of 2001", y.tree(2000), Due.SPENT);
    }

    private static void refusals() {
        due.part("promise 38, refusals");
        NetHouse x = meeting();
        x.step(1);
        due.is("tree(99) with a guarded step", x.tree(99) > 0 ? 1 : 0, 1);
        x.step(2);
        due.is("tree(99) with a stopped step", x.tree(99), Due.NO);
        due.is("tree(0) with a stopped step", x.tree(0), Due.BAD);
        NetHouse y = meeting();
        y.step(3);
        due.is("tree(99) with an urgent step", y.tree(99), Due.NO);
        NetHouse z = meeting();
        z.place(1);
        due.is("tree(99) with a coloured place", z.tree(99), Due.NO);
    }

    private static void nodes() {
        due.part("promise 39");
        NetHouse x = meeting();
        due.is("node(0, 0) without a tree", x.node(0, 0), Due.NO);
        due.is("node(-1, 0) without a tree", x.node(-1, 0), Due.NO);
        due.is("node(0, 3) without a tree", x.node(0, 3), Due.BAD);
        x.tree(9);
        int[][] want = {{1, 1, 0}, {0, 1, 1}, {1, 0, 1}, {0, 0, 2}, {0, 0, 2}};
        for (int i = 0; i < 5; i++) {
            for (int p = 0; p < 3; p++) {
                due.is("node(" + i + ", " + p + ")", x.node(i, p), want[i][p]);
            }
        }
        due.is("node(5, 0)", x.node(5, 0), Due.BAD);
        due.is("node(-1, 0)", x.node(-1, 0), Due.BAD);
        due.is("node(0, -1)", x.node(0, -1), Due.BAD);
    }

    /** (0 5), then (1 0), then (1 1): endless at 1 by (1 0), and by that endless at 0 by (0 5). */
    private static NetHouse twice() {
        NetHouse x = new NetHouse();
        x.place(0);
        x.place(0);
        x.step(0);
        x.step(0);
        x.arc(0, 1, 5, 0);
        x.arc(0, 0, 0, 1);
        x.arc(1, 0, 1, 1);
        x.arc(1, 1, 0, 1);
        x.mark(1, 5);
        return x;
    }

    private static void comparedAllTheWayUp() {
        due.part("promise 39, without end");
        NetHouse x = twice();
        due.is("tree(99)", x.tree(99), 5);
        due.is("node(1, 0)", x.node(1, 0), 1);
        due.is("node(1, 1)", x.node(1, 1), 0);
        for (int i = 2; i < 5; i++) {
            due.is("node(" + i + ", 0)", x.node(i, 0), Due.ENDLESS);
            due.is("node(" + i + ", 1)", x.node(i, 1), Due.ENDLESS);
            due.is("above(" + i + ", 2)", x.above(i, 2), i == 2 ? 0 : 1);
        }
        due.is("bound(0)", x.bound(0), Due.ENDLESS);
        due.is("pump(), by the nearest one", x.pump(), 1);
        due.is("count(5)", x.count(5), 2);
        due.is("walk(0)", x.walk(0), 0);
        due.is("walk(1)", x.walk(1), 1);
    }

    private static void standing() {
        due.part("promise 40");
        NetHouse x = meeting();
        due.is("above(0, 0) without a tree", x.above(0, 0), Due.NO);
        due.is("above(9, 0) without a tree", x.above(9, 0), Due.NO);
        due.is("above(0, 3) without a tree", x.above(0, 3), Due.BAD);
        x.tree(9);
        int[] above = {Due.NONE, 0, 0, 1, 2};
        int[] by = {Due.NONE, 0, 1, 1, 0};
        int[] leaf = {0, 0, 0, 0, 1};
        for (int i = 0; i < 5; i++) {
            due.is("above(" + i + ", 0)", x.above(i, 0), above[i]);
            due.is("above(" + i + ", 1)", x.above(i, 1), by[i]);
            due.is("above(" + i + ", 2)", x.above(i, 2), leaf[i]);
        }
        due.is("above(5, 0)", x.above(5, 0), Due.BAD);
        due.is("above(-1, 2)", x.above(-1, 2), Due.BAD);
        due.is("above(0, 3)", x.above(0, 3), Due.BAD);
        due.is("above(0, -1)", x.above(0, -1), Due.BAD);
    }

    private static void needsInATree() {
        due.part("promise 38, needs");
        NetHouse x = new NetHouse();
        x.place(0);
        x.place(0);
        x.step(0);
        x.step(1);
        x.arc(0, 0, 0, 1);
        x.arc(1, 1, 0, 1);
        x.need(1, 0, 9);
        // 0 (0 0), 1 (w 0), then by step 0 a leaf, by step 1 (w w), and of that two leaves
        due.is("tree(99)", x.tree(99), 6);
        due.is("node(3, 1), endless is enough for a need", x.node(3, 1), Due.ENDLESS);
        due.is("above(2, 2)", x.above(2, 2), 1);
        due.is("above(3, 2)", x.above(3, 2), 0);
    }

    private static void covering() {
        due.part("promise 41");
        NetHouse x = meeting();
        due.is("cover() without a tree", x.cover(), Due.NO);
        x.tree(9);
        due.is("cover() of nothing", x.cover(), 0);
        x.row(3);
        x.set(2, 1);
        due.is("cover() of 0 0 1", x.cover(), 1);
        x.set(0, 1);
        due.is("cover() of 1 0 1", x.cover(), 2);
        x.set(0, 0);
        x.set(2, 2);
        due.is("cover() of 0 0 2", x.cover(), 3);
        x.set(1, -5);
        due.is("cover() of 0 -5 2", x.cover(), 3);
        x.set(2, 3);
        due.is("cover() of 0 -5 3", x.cover(), Due.NONE);
        x.row(5);
        x.set(4, 1000);
        due.is("cover(), a row too long", x.cover(), 0);
        NetHouse y = twice();
        y.tree(9);
        y.row(2);
        y.set(0, 1000000000);
        y.set(1, 1000000000);
        due.is("cover() by what is endless", y.cover(), 2);
    }

    private static void bounds() {
        due.part("promise 42");
        NetHouse x = meeting();
        due.is("bound(0) without a tree", x.bound(0), Due.NO);
        due.is("bound(3) without a tree", x.bound(3), Due.BAD);
        x.tree(9);
        due.is("bound(0)", x.bound(0), 1);
        due.is("bound(2)", x.bound(2), 2);
        due.is("bound(3)", x.bound(3), Due.BAD);
        due.is("bound(-1)", x.bound(-1), Due.BAD);
        x.place(0);
        x.tree(9);
        due.is("bound(3), always empty", x.bound(3), 0);
    }

    private static void pumping() {
        due.part("promise 43");
        NetHouse x = meeting();
        x.lay(1);
        due.is("pump() without a tree", x.pump(), Due.NO);
        x.tree(9);
        due.is("pump(), nothing is endless", x.pump(), Due.NONE);
        due.is("THE WAY stays", x.count(5), 1);
        NetHouse y = new NetHouse();
        y.place(0);
        y.step(0);
        y.arc(0, 0, 0, 1);
        y.tree(9);
        due.is("pump() from the beginning on", y.pump(), 0);
        due.is("count(5)", y.count(5), 1);
        due.is("check()", y.check(), 1);
    }

    private static void pumpingLate() {
        due.part("promise 43, behind some steps");
        NetHouse x = new NetHouse();
        for (int i = 0; i < 4; i++) {
            x.place(0);
            x.step(0);
        }
        // 0 to 1 to 2; step 2 from 2 to 1 and something into 3; step 3 does not go
        x.arc(0, 0, 1, 0);
        x.arc(0, 1, 0, 1);
        x.arc(1, 1, 1, 0);
        x.arc(1, 2, 0, 1);
        x.arc(2, 2, 1, 0);
        x.arc(2, 1, 0, 1);
        x.arc(2, 3, 0, 1);
        x.arc(3, 0, 9, 9);
        x.mark(0, 1);
        x.tree(99);
        due.is("pump()", x.pump(), 1);
        due.is("count(5)", x.count(5), 3);
        for (int k = 0; k < 3; k++) {
            due.is("walk(" + k + ")", x.walk(k), k);
        }
        due.is("check()", x.check(), 3);
        due.is("node(3, 3)", x.node(3, 3), Due.ENDLESS);
        due.is("node(3, 1)", x.node(3, 1), 1);
    }
}
