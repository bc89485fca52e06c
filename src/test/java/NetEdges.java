/** Promises 1 to 9, sentence by sentence. */
final class NetEdges {
    private static final Look.Part[] FOUND = {Look.Part.PAST, Look.Part.FIELD, Look.Part.TREE, Look.Part.WEIGHTS,
        Look.Part.ROUNDS, Look.Part.SETS};
    private static final String NOTHING_FOUND =
        "count 2 = 0; count 6 = 0; count 7 = 0; count 8 = 0; count 9 = 0; count 10 = 0; back = NO;"
            + "find = NO; cover = NO; marking 0 0 = NO; node 0 0 = NO; weight 0 0 = BAD; round 0 0 = BAD; bits 0 = BAD";

    private final Edges e;

    NetEdges(Edges e) {
        this.e = e;
    }

    void all() {
        newObject();
        place();
        step();
        arc();
        need();
        close();
        want();
        asks();
        isOf();
    }

    private void newObject() {
        e.of(1, "There is nothing.", () -> {
            e.run(Scenes.EMPTY, "count 0 = 0; count 1 = 0; count 2 = 0; count 3 = 0; count 4 = 0; count 5 = 0; count 6 = 0");
            e.run(Scenes.EMPTY, "count 7 = 0; count 8 = 0; count 9 = 0; count 10 = 0; fault = NONE; back = NO; lift = 0");
            e.run(Scenes.EMPTY, "many 0 = BAD; may 0 = BAD; isOf 0 0 = BAD; get 0 = BAD; walk 0 = BAD; bits 0 = BAD");
            e.run(Scenes.EMPTY, "find = NO; cover = NO; pump = NO; dead 0 = NO; way 0 = NO; home 0 = NO; above 0 0 = NO");
            e.run(Scenes.EMPTY, "place 0 = 0; step 0 = 0; many 0 = 0; may 0 = 1");
        });
    }

    private void place() {
        e.of(2, "One more PLACE, PLAIN (0) or COLOURED (1): its number.", () -> {
            e.run(Scenes.EMPTY, "place 0 = 0; count 0 = 1; place 1 = 1; count 0 = 2; mark 0 0 = 0; thing 1 0 = 1");
            e.run(Scenes.EMPTY, "place 1 = 0; place 0 = 1; mark 0 0 = NO; thing 1 0 = NO");
            e.changes(Scenes.BOUNDED, "place 0 = 3", netAnd(Look.Part.DRAINS));
            e.run(Scenes.BOUNDED, "place 1 = 3; many 3 = 0; asks 2 3 0 = 0; asks 2 3 5 = 0", NOTHING_FOUND);
        });
        e.of(2, "BAD", () -> {
            e.refuses(Scenes.EMPTY, "BAD", "place -1", "place 2");
            e.refuses(Scenes.BOUNDED, "BAD", "place -1", "place 2", "place MIN", "place MAX");
            e.refuses(Scenes.WIDEST, "BAD", "place -1", "place 2");
        });
        e.of(2, "FULL", () -> {
            e.run(Scene.of("15* place 0"), "place 1 = 15; place 0 = FULL; place 1 = FULL; count 0 = 16; mark 16 0 = BAD");
            e.refuses(Scenes.WIDEST, "FULL", "place 0", "place 1");
        });
    }

    /** What goes with a change of the net, and one part more. */
    private static Look.Part[] netAnd(Look.Part... more) {
        Look.Part[] all = new Look.Part[FOUND.length + 1 + more.length];
        System.arraycopy(FOUND, 0, all, 0, FOUND.length);
        all[FOUND.length] = Look.Part.NET;
        System.arraycopy(more, 0, all, FOUND.length + 1, more.length);
        return all;
    }

    private void step() {
        e.of(3, "One more STEP of a KIND: its number.", () -> {
            e.run(Scenes.EMPTY, "step 0 = 0; step 1 = 1; step 2 = 2; step 3 = 3; count 1 = 4");
            e.run(Scenes.EMPTY, "step 3 = 0; isOf 0 3 = 1; step 0 = 1; isOf 1 1 = 0; isOf 1 0 = 1");
            e.changes(Scenes.BOUNDED, "step 0 = 3", netAnd());
            e.run(Scenes.BOUNDED, "step 1 = 3; may 3 = 1; asks 3 2 0 = 0; asks 3 2 2 = 0", NOTHING_FOUND);
        });
        e.of(3, "BAD", () -> {
            e.refuses(Scenes.EMPTY, "BAD", "step -1", "step 4");
            e.refuses(Scenes.BOUNDED, "BAD", "step -1", "step 4", "step MIN", "step MAX");
            e.refuses(Scenes.WIDEST, "BAD", "step -1", "step 4");
        });
        e.of(3, "FULL", () -> {
            e.run(Scene.of("15* step 0"), "step 3 = 15; step 0 = FULL; step 3 = FULL; count 1 = 16; may 16 = BAD");
            e.refuses(Scenes.WIDEST, "FULL", "step 0", "step 1", "step 2", "step 3");
        });
    }

    private void arc() {
        e.of(4, "What a STEP TAKES from a PLACE and PUTS there: 0.", () -> {
            e.run(Scenes.BOUNDED, "arc 2 0 9 0 = 0; asks 2 0 0 = 9; asks 2 0 1 = 0; arc 2 0 0 9 = 0; asks 2 0 0 = 0",
                "asks 2 0 1 = 9; arc 2 0 0 0 = 0; asks 2 0 1 = 0; arc 0 2 9 9 = 0; asks 0 2 0 = 9; asks 0 2 1 = 9");
            e.run(Scenes.WIDEST, "arc 15 15 9 9 = 0; asks 15 15 0 = 9; asks 15 15 1 = 9; asks 14 15 1 = 1");
            e.run(Scenes.BOUNDED, "arc 0 0 2 0 = 0", NOTHING_FOUND);
            e.changes(Scenes.BOUNDED, "arc 0 0 2 0 = 0", netAnd());
            e.changes(Scenes.BOUNDED, "arc 0 0 1 0 = 0", FOUND);
        });
        e.of(4, "BAD", () -> {
            e.refuses(Scenes.BOUNDED, "BAD", "arc 0 0 -1 0", "arc 0 0 10 0", "arc 0 0 0 -1", "arc 0 0 0 10",
                "arc -1 0 1 0", "arc 3 0 1 0", "arc 0 -1 1 0", "arc 0 3 1 0", "arc MIN 0 1 0", "arc MAX 0 1 0",
                "arc 0 MIN 1 0", "arc 0 MAX 1 0", "arc 0 0 MIN 0", "arc 0 0 MAX 0", "arc 0 0 0 MIN", "arc 0 0 0 MAX");
            e.refuses(Scenes.WIDEST, "BAD", "arc 16 15 1 0", "arc 15 16 1 0");
            e.refuses(Scenes.EMPTY, "BAD", "arc 0 0 0 0");
            e.refuses(Scene.of("place 0"), "BAD", "arc 0 0 0 0");
            e.refuses(Scene.of("step 0"), "BAD", "arc 0 0 0 0");
        });
    }

    private void need() {
        e.of(5, "The NEED of a STEP at a PLACE: 0.", () -> {
            e.run(Scenes.KINDS, "need 1 1 9 = 0; asks 1 1 2 = 9; need 1 1 0 = 0; asks 1 1 2 = 0; asks 1 0 2 = 2");
            e.run(Scenes.KINDS, "need 1 0 3 = 0; count 2 = 0; count 6 = 0; count 8 = 0; count 9 = 0; count 10 = 0");
            e.changes(Scenes.BOUNDED, "need 1 1 1 = 0", FOUND);
            e.changes(Scenes.BOUNDED, "need 1 1 2 = 0", netAnd(Look.Part.MARKS));
        });
        e.of(5, "BAD", () -> {
            e.refuses(Scenes.KINDS, "BAD", "need 1 0 -1", "need 1 0 10", "need 1 0 MIN", "need 1 0 MAX", "need -1 0 1",
                "need 4 0 1", "need 1 -1 1", "need 1 2 1", "need 0 0 -1", "need 0 0 10", "need 0 2 1");
            e.refuses(Scenes.BOUNDED, "BAD", "need 1 1 -1", "need 1 1 10", "need 3 0 1", "need 1 3 1", "need 0 0 10");
            e.refuses(Scenes.EMPTY, "BAD", "need 0 0 0");
        });
        e.of(5, "NO: it is not of KIND 1.", () -> {
            e.run(Scenes.KINDS, "need 1 0 1 = 0; need 2 0 1 = 0; need 3 0 1 = 0; asks 2 0 2 = 1; asks 3 0 2 = 1");
            e.refuses(Scenes.KINDS, "NO", "need 0 0 0", "need 0 0 1", "need 0 1 9");
            e.refuses(Scenes.BOUNDED, "NO", "need 0 0 0", "need 2 2 9");
        });
    }

    private void close() {
        e.of(6, "A PLACE is CLOSED to a STEP (closed 1), or not (0): 0.", () -> {
            e.run(Scenes.KINDS, "close 2 0 1 = 0; asks 2 0 3 = 1; close 2 0 0 = 0; asks 2 0 3 = 0; asks 2 1 3 = 1");
            e.run(Scenes.KINDS, "close 2 1 1 = 0; count 2 = 0; count 6 = 0; count 8 = 0; count 9 = 0; count 10 = 0");
            e.changes(Scenes.KINDS, "close 2 1 1 = 0", FOUND);
            e.changes(Scenes.KINDS, "close 2 0 1 = 0", netAnd(Look.Part.MARKS));
        });
        e.of(6, "BAD", () -> {
            e.refuses(Scenes.KINDS, "BAD", "close 2 0 -1", "close 2 0 2", "close 2 0 MIN", "close 2 0 MAX", "close -1 0 1",
                "close 4 0 1", "close 2 -1 1", "close 2 2 1", "close 0 0 2", "close 1 0 -1", "close 0 2 0");
            e.refuses(Scenes.EMPTY, "BAD", "close 0 0 0");
        });
        e.of(6, "NO: it is not of KIND 2.", () -> {
            e.run(Scenes.KINDS, "close 2 0 1 = 0; close 3 0 1 = 0; asks 2 0 3 = 1; asks 3 0 3 = 1");
            e.refuses(Scenes.KINDS, "NO", "close 0 0 0", "close 0 0 1", "close 1 0 0", "close 1 1 1");
            e.refuses(Scenes.BOUNDED, "NO", "close 0 0 0", "close 1 1 1");
        });
    }

    private void want() {
        e.of(7, "WANT and GIFT of a STEP at a PLACE: 0.", () -> {
            e.run(Scenes.COLOURED, "want 0 1 3 0 = 0; asks 0 1 4 = 3; asks 0 1 5 = 0; want 0 1 0 3 = 0; asks 0 1 4 = 0",
                "asks 0 1 5 = 3; asks 0 2 4 = 0; asks 0 2 5 = 3; want 3 2 3 3 = 0; asks 3 2 4 = 3");
            e.run(Scenes.COLOURED, "want 0 1 1 2 = 0; count 2 = 0; count 8 = 0; count 9 = 0; count 10 = 0; back = NO");
            e.changes(Scenes.COLOURED, "want 0 1 1 2 = 0", FOUND);
            e.changes(Scenes.COLOURED, "want 0 1 2 2 = 0", netAnd());
        });
        e.of(7, "BAD", () -> {
            e.refuses(Scenes.COLOURED, "BAD", "want 0 1 -1 0", "want 0 1 4 0", "want 0 1 0 -1", "want 0 1 0 4",
                "want 0 1 MIN 0", "want 0 1 0 MAX", "want -1 1 0 0", "want 4 1 0 0", "want 0 -1 0 0", "want 0 3 0 0",
                "want 0 0 4 0", "want 0 0 0 -1", "want 4 0 0 0");
            e.refuses(Scenes.BOUNDED, "BAD", "want 0 0 4 0", "want 0 3 0 0");
        });
        e.of(7, "NO: the PLACE is not COLOURED.", () -> {
            e.refuses(Scenes.COLOURED, "NO", "want 0 0 0 0", "want 3 0 3 3");
            e.refuses(Scenes.BOUNDED, "NO", "want 0 0 0 0", "want 2 2 1 2");
        });
    }

    private void asks() {
        e.of(8, "Of a STEP at a PLACE: what = 0 what it TAKES, 1 PUTS,", () -> {
            e.run(Scenes.BOUNDED, "arc 2 0 3 7; asks 2 0 0 = 3; asks 2 0 1 = 7; asks 2 1 0 = 1; asks 2 1 1 = 0");
            e.leaves(Scenes.BOUNDED, "asks 0 0 0 = 1", "asks 0 0 1 = 0", "asks 0 1 1 = 1");
        });
        e.of(8, "2 its NEED (0 if it has none),", () -> {
            e.run(Scenes.KINDS, "asks 0 0 2 = 0; asks 1 0 2 = 2; asks 1 1 2 = 0; asks 2 0 2 = 0; asks 3 0 2 = 0");
            e.leaves(Scenes.KINDS, "asks 0 0 2 = 0", "asks 1 0 2 = 2");
        });
        e.of(8, "3 whether the PLACE is CLOSED to it (1, 0),", () -> {
            e.run(Scenes.KINDS, "asks 0 1 3 = 0; asks 1 1 3 = 0; asks 2 1 3 = 1; asks 2 0 3 = 0; asks 3 1 3 = 0");
            e.leaves(Scenes.KINDS, "asks 0 1 3 = 0", "asks 2 1 3 = 1");
        });
        e.of(8, "4 WANT, 5 GIFT (0 of a PLAIN PLACE).", () -> {
            e.run(Scenes.COLOURED, "asks 0 1 4 = 1; asks 0 1 5 = 2; asks 0 0 4 = 0; asks 0 0 5 = 0; asks 3 2 4 = 0");
            e.leaves(Scenes.COLOURED, "asks 0 1 4 = 1", "asks 0 1 5 = 2", "asks 0 0 4 = 0", "asks 0 0 5 = 0");
        });
        e.of(8, "BAD", () -> {
            e.refuses(Scenes.BOUNDED, "BAD", "asks 0 0 -1", "asks 0 0 6", "asks 0 0 MIN", "asks 0 0 MAX", "asks -1 0 0",
                "asks 3 0 0", "asks 0 -1 0", "asks 0 3 0", "asks MAX 0 0", "asks 0 MIN 0");
            e.refuses(Scenes.WIDEST, "BAD", "asks 16 0 0", "asks 0 16 0");
            e.run(Scenes.WIDEST, "asks 15 15 0 = 1; asks 15 0 5 = 0");
            e.refuses(Scenes.EMPTY, "BAD", "asks 0 0 0");
        });
    }

    private void isOf() {
        e.of(9, "Whether a STEP is of a KIND: 1, 0.", () -> {
            e.run(Scenes.KINDS, "isOf 0 0 = 1; isOf 0 1 = 0; isOf 0 2 = 0; isOf 0 3 = 0; isOf 1 0 = 1; isOf 1 1 = 1",
                "isOf 1 2 = 0; isOf 1 3 = 0; isOf 2 0 = 1; isOf 2 1 = 1; isOf 2 2 = 1; isOf 2 3 = 0",
                "isOf 3 0 = 1; isOf 3 1 = 1; isOf 3 2 = 1; isOf 3 3 = 1");
            e.leaves(Scenes.KINDS, "isOf 0 0 = 1", "isOf 2 3 = 0");
        });
        e.of(9, "BAD", () -> {
            e.refuses(Scenes.KINDS, "BAD", "isOf 0 -1", "isOf 0 4", "isOf -1 0", "isOf 4 0", "isOf 0 MIN", "isOf 0 MAX",
                "isOf MIN 0", "isOf MAX 0");
            e.refuses(Scenes.WIDEST, "BAD", "isOf 16 0");
            e.run(Scenes.WIDEST, "isOf 15 0 = 1");
            e.refuses(Scenes.EMPTY, "BAD", "isOf 0 0");
        });
    }
}
