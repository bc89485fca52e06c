/** Promises 20 to 27, sentence by sentence. */
final class HandEdges {
    private static final Scene FIVE = Scene.of("row 5; set 0 1; set 1 2; set 2 3; set 3 4; set 4 5");
    private static final Scene LONGEST_ROW = Scenes.WIDEST.then("set 1 1; set 14 14");

    private final Edges e;

    HandEdges(Edges e) {
        this.e = e;
    }

    void all() {
        row();
        setAndGet();
        copy();
        way();
        check();
    }

    private void row() {
        e.of(20, "THE ROW has n numbers, all 0: n.", () -> {
            e.run(Scenes.EMPTY, "row 0 = 0; count 4 = 0; get 0 = BAD; row 1 = 1; get 0 = 0; get 1 = BAD; row 16 = 16",
                "count 4 = 16; get 15 = 0");
            e.run(FIVE, "row 5 = 5; get 0 = 0; get 1 = 0; get 2 = 0; get 3 = 0; get 4 = 0");
            e.run(FIVE, "row 2 = 2; row 5 = 5; get 0 = 0; get 2 = 0; get 4 = 0; row 0 = 0; get 0 = BAD; row 16 = 16",
                "get 4 = 0");
            e.changes(Scenes.BOUNDED, "row 5 = 5", Look.Part.ROW);
            e.changes(Scenes.WIDEST, "row 0 = 0", Look.Part.ROW);
        });
        e.of(20, "BAD: not 0 .. 16.", () -> {
            e.refuses(Scenes.BOUNDED, "BAD", "row -1", "row 17", "row MIN", "row MAX");
            e.refuses(Scenes.EMPTY, "BAD", "row -1", "row 17");
        });
    }

    private void setAndGet() {
        e.of(21, "Number i of THE ROW is v: what it was.", () -> {
            e.run(FIVE, "set 0 1000000000 = 1; get 0 = 1000000000; set 0 -1000000000 = 1000000000; get 0 = -1000000000");
            e.run(FIVE, "set 0 0 = 1; get 0 = 0; set 4 -1 = 5; set 4 0 = -1; get 3 = 4");
            e.changes(Scenes.BOUNDED, "set 4 1 = 9", Look.Part.ROW);
            e.run(LONGEST_ROW, "set 15 3 = -7; get 15 = 3; get 14 = 14");
        });
        e.of(21, "BAD", () -> {
            e.refuses(Scenes.BOUNDED, "BAD", "set 0 1000000001", "set 0 -1000000001", "set 0 MIN", "set 0 MAX", "set -1 0",
                "set 5 0", "set MIN 0", "set MAX 0");
            e.refuses(LONGEST_ROW, "BAD", "set 16 0");
            e.refuses(Scenes.EMPTY, "BAD", "set 0 0");
            e.refuses(Scene.of("row 3; row 0"), "BAD", "set 0 0");
        });
        e.of(22, "Number i of THE ROW.", () -> {
            e.leaves(Scenes.BOUNDED, "get 0 = 4", "get 1 = -7", "get 2 = 0", "get 4 = 9");
            e.run(LONGEST_ROW, "get 0 = 4; get 15 = -7");
        });
        e.of(22, "BAD", () -> {
            e.refuses(Scenes.BOUNDED, "BAD", "get -1", "get 5", "get MIN", "get MAX");
            e.refuses(LONGEST_ROW, "BAD", "get 16");
            e.refuses(Scenes.EMPTY, "BAD", "get 0");
        });
    }

    private void copy() {
        e.of(23, "n numbers of THE ROW, from place a on, are copied, as they are, to places b and on: 0.", () -> {
            e.run(FIVE, "copy 0 1 4 = 0; get 0 = 1; get 1 = 1; get 2 = 2; get 3 = 3; get 4 = 4");
            e.run(FIVE, "copy 1 0 4 = 0; get 0 = 2; get 1 = 3; get 2 = 4; get 3 = 5; get 4 = 5");
            e.run(FIVE, "copy 0 0 5 = 0; get 0 = 1; get 4 = 5; copy 0 4 1 = 0; get 4 = 1; get 3 = 4; copy 3 0 1 = 0",
                "get 0 = 4");
            e.run(LONGEST_ROW, "copy 0 1 15 = 0; get 15 = 14; get 1 = 4; get 2 = 1; get 0 = 4");
            e.changes(Scenes.BOUNDED, "copy 0 3 2 = 0", Look.Part.ROW);
            e.run(Scenes.BOUNDED, "copy 0 3 2 = 0; get 3 = 4; get 4 = -7; get 0 = 4; get 1 = -7; get 2 = 0");
        });
        e.of(23, "BAD: n is below 0,", () -> {
            e.leaves(Scenes.BOUNDED, "copy 1 0 0 = 0");
            e.refuses(Scenes.BOUNDED, "BAD", "copy 1 0 -1", "copy 0 1 -1", "copy 5 5 -1", "copy 1 0 MIN");
            e.refuses(Scenes.EMPTY, "BAD", "copy 0 0 -1");
        });
        e.of(23, "or one of these is no place of THE ROW", () -> {
            e.refuses(Scenes.BOUNDED, "BAD", "copy 0 1 5", "copy 1 0 5", "copy 0 0 6", "copy 5 0 1", "copy 0 5 1",
                "copy -1 0 1",
                "copy 0 -1 1", "copy -1 0 5", "copy 4 0 2", "copy 0 4 2", "copy MIN 0 1", "copy 0 MIN 1", "copy MAX 0 1",
                "copy 0 MAX 1", "copy 0 0 MAX", "copy 1 0 MAX", "copy 0 1 MAX", "copy MAX 0 MAX", "copy 0 MAX MAX");
            e.run(Scenes.BOUNDED, "copy 3 0 2 = 0; copy 0 3 2 = 0; copy 4 0 1 = 0; copy 0 4 1 = 0; copy 0 0 5 = 0");
            e.refuses(LONGEST_ROW, "BAD", "copy 0 1 16", "copy 15 0 2", "copy 0 0 17");
            e.refuses(Scenes.EMPTY, "BAD", "copy 0 0 1");
        });
        e.of(23, "(n 0: a, b are not 0 .. how many it has).", () -> {
            e.leaves(Scenes.BOUNDED, "copy 0 0 0 = 0", "copy 5 0 0 = 0", "copy 0 5 0 = 0", "copy 5 5 0 = 0");
            e.refuses(Scenes.BOUNDED, "BAD", "copy 6 0 0", "copy 0 6 0", "copy -1 0 0", "copy 0 -1 0", "copy MAX 0 0",
                "copy 0 MIN 0");
            e.run(LONGEST_ROW, "copy 16 16 0 = 0; copy 17 0 0 = BAD; copy 0 17 0 = BAD");
            e.run(Scenes.EMPTY, "copy 0 0 0 = 0; copy 1 0 0 = BAD; copy 0 1 0 = BAD");
        });
    }

    private void way() {
        e.of(24, "A STEP comes behind THE WAY: how many it has.", () -> {
            e.run(Scenes.BOUNDED, "lay 2 = 4; walk 3 = 2; lay 0 = 5; walk 4 = 0; walk 0 = 2; count 5 = 5");
            e.changes(Scenes.BOUNDED, "lay 2 = 4", Look.Part.WAY);
            e.run(Scenes.WIDEST, "lay 15 = 3; walk 2 = 15");
            e.run(Scene.of("step 0; 510* lay 0"), "lay 0 = 511");
        });
        e.of(24, "BAD", () -> {
            e.refuses(Scenes.BOUNDED, "BAD", "lay -1", "lay 3", "lay MIN", "lay MAX");
            e.refuses(Scenes.WIDEST, "BAD", "lay 16");
            e.refuses(Scenes.LONGEST, "BAD", "lay -1", "lay 1");
            e.refuses(Scenes.EMPTY, "BAD", "lay 0");
        });
        e.of(24, "FULL", () -> {
            e.run(Scene.of("place 0; step 0; arc 0 0 1 0; mark 0 7999; field 8000; way 7998 = 7998"),
                "lay 0 = 7999; lay 0 = 8000; lay 0 = FULL; count 5 = 8000; lift = 8000; lay 0 = 1");
            e.refuses(Scenes.LONGEST, "FULL", "lay 0");
        });
        e.of(25, "THE WAY is empty: how many it had.", () -> {
            e.run(Scenes.BOUNDED, "lift = 3; count 5 = 0; walk 0 = BAD; lift = 0; check = 0; lay 1 = 1; walk 0 = 1",
                "walk 1 = BAD");
            e.run(Scenes.LONGEST, "lift = 8000; lift = 0; count 5 = 0");
            e.changes(Scenes.BOUNDED, "lift = 3", Look.Part.WAY);
            e.leaves(Scenes.EMPTY, "lift = 0");
        });
        e.of(26, "STEP i of THE WAY.", () -> {
            e.leaves(Scenes.BOUNDED, "walk 0 = 2", "walk 1 = 0", "walk 2 = 1");
            e.run(Scenes.LONGEST, "walk 0 = 0; walk 7999 = 0");
        });
        e.of(26, "BAD", () -> {
            e.refuses(Scenes.BOUNDED, "BAD", "walk -1", "walk 3", "walk MIN", "walk MAX");
            e.refuses(Scenes.LONGEST, "BAD", "walk 8000", "walk -1");
            e.refuses(Scenes.EMPTY, "BAD", "walk 0");
        });
    }

    private void check() {
        e.of(27, "How many STEPS of THE WAY go, one behind the other, from what there is now, until one does not GO", () -> {
            e.run(Scenes.BOUNDED, "check = 3; lay 0 = 4; check = 4; lay 2 = 5; check = 5; lay 2 = 6; check = 5; lay 0 = 7",
                "check = 5");
            e.run(Scenes.BOUNDED, "mark 1 0; check = 0; mark 1 1; mark 0 0; check = 1; lift; check = 0");
            e.run(Scenes.LONGEST, "check = 7999; mark 0 8000; check = 8000; mark 0 1; check = 1");
            e.run(GoingEdges.URGED, "check = 0; lift; lay 0; lay 1; check = 1; mark 0 2; check = 1; lay 0; check = 1");
            e.run(Scenes.EMPTY, "check = 0");
        });
        e.of(27, "(nothing goes by that,", () -> {
            e.leaves(Scenes.BOUNDED, "check = 3");
            e.leaves(Scenes.BOUNDED.then("mark 0 0; go 2"), "check = 0");
            e.leaves(Scenes.LONGEST, "check = 7999");
        });
        e.of(27, "and no number of MARKS is too great).", () -> {
            Scene beyond = GoingEdges.FILLING.then("raise 1 999999999; 5* lay 0");
            e.leaves(beyond, "check = 5");
            e.run(beyond, "go 0 = FULL; check = 5; mark 0 4; check = 4");
        });
        e.of(27, "NO: a PLACE is COLOURED.", () -> {
            e.refuses(Scenes.COLOURED, "NO", "check");
            e.refuses(Scenes.UNFOUND.then("place 1"), "NO", "check");
            e.refuses(Scene.of("place 1"), "NO", "check");
        });
    }
}
