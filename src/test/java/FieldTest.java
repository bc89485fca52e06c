/** Promises 28 to 37: the field. */
public final class FieldTest {
    private static final Due due = new Due("FieldTest");

    public static void main(String[] args) {
        making();
        limits();
        whatGoesInAField();
        markings();
        leading();
        ways();
        finding();
        deadOnes();
        stuckOnes();
        homes();
        working();
        faults();
        due.end();
    }

    /** From place 0 to place 1 (step 0) and back (step 2), or to place 2 (step 1) for good. */
    private static NetHouse fork() {
        NetHouse x = new NetHouse();
        for (int i = 0; i < 3; i++) {
            x.place(0);
            x.step(0);
        }
        x.arc(0, 0, 1, 0);
        x.arc(0, 1, 0, 1);
        x.arc(1, 0, 1, 0);
        x.arc(1, 2, 0, 1);
        x.arc(2, 1, 1, 0);
        x.arc(2, 0, 0, 1);
        x.mark(0, 1);
        return x;
    }

    private static void making() {
        due.part("promise 28");
        NetHouse x = fork();
        due.is("field(0)", x.field(0), Due.BAD);
        due.is("field(8001)", x.field(8001), Due.BAD);
        due.is("field(3)", x.field(3), 3);
        due.is("field(0) again", x.field(0), Due.BAD);
        due.is("it stays by a refusal", x.count(6), 3);
        due.is("field(2)", x.field(2), Due.SPENT);
        due.is("there is none then", x.count(6), 0);
        due.is("marking(0, 0)", x.marking(0, 0), Due.NO);
        due.is("field(8000)", x.field(8000), 3);
        x.mark(0, 2);
        due.is("it stays when marks are told", x.marking(0, 0), 1);
        x.go(0);
        due.is("it stays when something goes", x.count(6), 3);
        due.is("field(8000) of what there is now", x.field(8000), 6);
        due.is("marking(0, 1)", x.marking(0, 1), 1);
        x.place(1);
        due.is("field(9) with a coloured place", x.field(9), Due.NO);
        due.is("field(0) with a coloured place", x.field(0), Due.BAD);
    }

    private static void limits() {
        due.part("promise 28, 8000 markings");
        NetHouse x = new NetHouse();
        x.place(0);
        x.place(0);
        x.step(0);
        x.step(0);
        x.arc(0, 0, 1, 0);
        x.arc(0, 1, 0, 1);
        x.arc(1, 1, 1, 0);
        x.arc(1, 0, 0, 1);
        x.mark(0, 7999);
        due.is("field(7999)", x.field(7999), Due.SPENT);
        due.is("field(8000)", x.field(8000), 8000);
        due.is("marking(7999, 1)", x.marking(7999, 1), 7999);
        due.is("next(7999, 1)", x.next(7999, 1), 7998);
        due.is("home(0)", x.home(0), 1);
        due.is("home(7999)", x.home(7999), 1);
        due.is("stuck(0)", x.stuck(0), Due.NONE);
        x.mark(0, 8000);
        due.is("field(8000) of one more", x.field(8000), Due.SPENT);
        x.arc(1, 0, 0, 2);
        x.mark(0, 1);
        due.is("field(8000) without end", x.field(8000), Due.SPENT);
    }

    private static void whatGoesInAField() {
        due.part("promise 28, steps of kinds");
        NetHouse x = new NetHouse();
        x.place(0);
        x.place(0);
        x.step(0);
        x.step(3);
        x.arc(0, 0, 1, 0);
        x.arc(1, 0, 1, 0);
        x.arc(1, 1, 0, 1);
        x.mark(0, 1);
        due.is("only the urgent one goes", x.field(9), 2);
        due.is("next(0, 0)", x.next(0, 0), Due.NONE);
        due.is("next(0, 1)", x.next(0, 1), 1);
        NetHouse y = new NetHouse();
        y.place(0);
        y.step(1);
        y.arc(0, 0, 1, 0);
        y.need(0, 0, 2);
        y.mark(0, 4);
        due.is("as far as the need goes", y.field(9), 4);
        due.is("marking(3, 0)", y.marking(3, 0), 1);
        NetHouse z = new NetHouse();
        z.place(0);
        z.step(2);
        z.arc(0, 0, 0, 3);
        z.close(0, 0, 1);
        due.is("until the place is closed", z.field(9), 2);
        due.is("marking(1, 0)", z.marking(1, 0), 3);
    }

    private static void markings() {
        due.part("promise 29");
        NetHouse x = fork();
        due.is("marking(0, 0) without a field", x.marking(0, 0), Due.NO);
        due.is("marking(-1, 0) without a field", x.marking(-1, 0), Due.NO);
        due.is("marking(0, 3) without a field", x.marking(0, 3), Due.BAD);
        due.is("marking(0, -1) without a field", x.marking(0, -1), Due.BAD);
        x.field(9);
        int[][] want = {{1, 0, 0}, {0, 1, 0}, {0, 0, 1}};
        for (int i = 0; i < 3; i++) {
            for (int p = 0; p < 3; p++) {
                due.is("marking(" + i + ", " + p + ")", x.marking(i, p), want[i][p]);
            }
        }
        due.is("marking(3, 0)", x.marking(3, 0), Due.BAD);
        due.is("marking(-1, 0)", x.marking(-1, 0), Due.BAD);
        due.is("marking(0, 3)", x.marking(0, 3), Due.BAD);
    }

    private static void leading() {
        due.part("promise 30");
        NetHouse x = fork();
        due.is("next(0, 0) without a field", x.next(0, 0), Due.NO);
        due.is("next(9, 0) without a field", x.next(9, 0), Due.NO);
        due.is("next(0, 3) without a field", x.next(0, 3), Due.BAD);
        x.field(9);
        int[][] want = {{1, 2, Due.NONE}, {Due.NONE, Due.NONE, 0}, {Due.NONE, Due.NONE, Due.NONE}};
        for (int i = 0; i < 3; i++) {
            for (int s = 0; s < 3; s++) {
                due.is("next(" + i + ", " + s + ")", x.next(i, s), want[i][s]);
            }
        }
        due.is("next(3, 0)", x.next(3, 0), Due.BAD);
        due.is("next(-1, 0)", x.next(-1, 0), Due.BAD);
        due.is("next(0, -1)", x.next(0, -1), Due.BAD);
    }

    private static void ways() {
        due.part("promise 31");
        NetHouse x = fork();
        x.lay(2);
        due.is("way(0) without a field", x.way(0), Due.NO);
        due.is("way(-1) without a field", x.way(-1), Due.NO);
        due.is("THE WAY stays", x.count(5), 1);
        x.mark(0, 2);
        x.field(9);
        due.is("way(6)", x.way(6), Due.BAD);
        due.is("way(-1)", x.way(-1), Due.BAD);
        due.is("THE WAY stays", x.walk(0), 2);
        // 0 (2 0 0), 1 (1 1 0), 2 (1 0 1), 3 (0 2 0), 4 (0 1 1), 5 (0 0 2)
        due.is("marking(4, 1)", x.marking(4, 1), 1);
        due.is("marking(4, 2)", x.marking(4, 2), 1);
        due.is("way(4)", x.way(4), 2);
        due.is("walk(0)", x.walk(0), 0);
        due.is("walk(1)", x.walk(1), 1);
        due.is("way(5)", x.way(5), 2);
        due.is("walk(0)", x.walk(0), 1);
        due.is("walk(1)", x.walk(1), 1);
        due.is("way(0)", x.way(0), 0);
        due.is("walk(0)", x.walk(0), Due.BAD);
    }

    private static void finding() {
        due.part("promise 32");
        NetHouse x = fork();
        due.is("find() without a field", x.find(), Due.NO);
        x.field(9);
        due.is("find() of nothing anywhere", x.find(), Due.NONE);
        x.row(2);
        x.set(1, 1);
        due.is("find(), a row too short", x.find(), 1);
        x.row(5);
        x.set(2, 1);
        x.set(4, 77);
        due.is("find(), a row too long", x.find(), 2);
        x.set(0, -1);
        due.is("find(), below 0", x.find(), Due.NONE);
        x.set(0, 1000000000);
        due.is("find(), far away", x.find(), Due.NONE);
    }

    private static void deadOnes() {
        due.part("promise 33");
        NetHouse x = fork();
        due.is("dead(0) without a field", x.dead(0), Due.NO);
        due.is("dead(-1) without a field", x.dead(-1), Due.BAD);
        x.field(9);
        due.is("dead(0)", x.dead(0), 2);
        due.is("dead(1)", x.dead(1), Due.NONE);
        due.is("dead(-1)", x.dead(-1), Due.BAD);
        x.step(0);
        x.arc(3, 0, 1, 0);
        x.field(9);
        due.is("dead(0) of two", x.dead(0), 2);
        due.is("dead(1) of two", x.dead(1), 3);
        due.is("dead(2) of two", x.dead(2), Due.NONE);
        due.is("dead, far away", x.dead(Integer.MAX_VALUE), Due.NONE);
    }

    private static void stuckOnes() {
        due.part("promise 34");
        NetHouse x = fork();
        due.is("stuck(0) without a field", x.stuck(0), Due.NO);
        due.is("stuck(3) without a field", x.stuck(3), Due.BAD);
        x.field(9);
        for (int s = 0; s < 3; s++) {
            due.is("stuck(" + s + ")", x.stuck(s), 2);
        }
        due.is("stuck(3)", x.stuck(3), Due.BAD);
        due.is("stuck(-1)", x.stuck(-1), Due.BAD);
        x.step(0);
        x.field(9);
        due.is("stuck(3), it goes everywhere", x.stuck(3), Due.NONE);
        due.is("stuck(1), others do not", x.stuck(1), 2);
        x.arc(3, 2, 1, 0);
        x.arc(3, 0, 0, 1);
        x.field(9);
        for (int s = 0; s < 4; s++) {
            due.is("stuck(" + s + "), back again", x.stuck(s), Due.NONE);
        }
        x.step(0);
        x.arc(4, 2, 2, 0);
        x.field(9);
        due.is("stuck(4), it goes nowhere", x.stuck(4), 0);
    }

    private static void homes() {
        due.part("promise 35");
        NetHouse x = fork();
        due.is("home(0) without a field", x.home(0), Due.NO);
        due.is("home(-1) without a field", x.home(-1), Due.NO);
        x.field(9);
        due.is("home(0)", x.home(0), 0);
        due.is("home(1)", x.home(1), 0);
        due.is("home(2)", x.home(2), 1);
        due.is("home(3)", x.home(3), Due.BAD);
        due.is("home(-1)", x.home(-1), Due.BAD);
    }

    /** Step 0 leads from place 0 to place 1. */
    private static NetHouse straight() {
        NetHouse x = new NetHouse();
        x.place(0);
        x.place(0);
        x.place(0);
        x.step(0);
        x.arc(0, 0, 1, 0);
        x.arc(0, 1, 0, 1);
        return x;
    }

    private static void working() {
        due.part("promise 36");
        NetHouse x = straight();
        x.mark(2, 9);
        due.is("works(0, 1, 2)", x.works(0, 1, 2), 0);
        due.is("that field", x.count(6), 2);
        due.is("marking(0, 0)", x.marking(0, 0), 1);
        due.is("marking(0, 2)", x.marking(0, 2), 0);
        due.is("what there is stays", x.many(2), 9);
        due.is("works(3, 1, 2)", x.works(3, 1, 2), Due.BAD);
        due.is("works(0, -1, 2)", x.works(0, -1, 2), Due.BAD);
        due.is("works(0, 1, 0)", x.works(0, 1, 0), Due.BAD);
        due.is("works(0, 1, 8001)", x.works(0, 1, 8001), Due.BAD);
        due.is("the field stays", x.count(6), 2);
        due.is("works(0, 1, 1)", x.works(0, 1, 1), Due.SPENT);
        due.is("the field is gone", x.count(6), 0);
        due.is("works(1, 0, 8000)", x.works(1, 0, 8000), 1);
        due.is("works(0, 0, 9)", x.works(0, 0, 9), 1);
        x.place(1);
        due.is("works(0, 1, 9) with a coloured place", x.works(0, 1, 9), Due.NO);
        due.is("works(0, 9, 9) with a coloured place", x.works(0, 9, 9), Due.BAD);
        NetHouse y = new NetHouse();
        y.place(0);
        due.is("works(0, 0, 1)", y.works(0, 0, 1), 0);
        y.step(0);
        y.arc(0, 0, 0, 1);
        due.is("works(0, 0, 9) without end", y.works(0, 0, 9), Due.SPENT);
    }

    private static void faults() {
        due.part("promise 37");
        NetHouse x = straight();
        due.is("fault() without works()", x.fault(), Due.NONE);
        x.works(0, 1, 9);
        due.is("fault() of what works", x.fault(), Due.NONE);
        x.step(0);
        x.arc(1, 0, 1, 0);
        x.arc(1, 2, 0, 1);
        due.is("(1) by a way aside", x.works(0, 1, 9), 1);
        due.is("the one aside", x.fault(), 2);
        x.works(0, 1, 1);
        due.is("it stays by SPENT", x.fault(), 2);
        x.works(0, 9, 9);
        due.is("it stays by BAD", x.fault(), 2);
        x.arc(1, 0, 0, 0);
        due.is("it stays when the net changes", x.fault(), 2);
        x.arc(1, 2, 1, 0);
        due.is("(3) by a step that waits for nothing", x.works(0, 1, 9), 3);
        due.is("the step", x.fault(), 1);
        x.arc(0, 2, 0, 1);
        x.arc(1, 1, 1, 1);
        // 0 (1 0 0), 1 (0 1 1), 2 (0 1 0)
        due.is("(2) by something at the end too soon", x.works(0, 1, 9), 2);
        due.is("the marking", x.fault(), 1);
        x.step(0);
        x.arc(2, 2, 2, 0);
        due.is("(2) before (3)", x.works(0, 1, 9), 2);
        x.arc(1, 1, 0, 0);
        x.arc(1, 2, 1, 0);
        due.is("the end never comes", x.works(2, 0, 9), 1);
        due.is("from the beginning on", x.fault(), 0);
    }
}
