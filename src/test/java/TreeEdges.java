/** Promises 38 to 43, sentence by sentence. In GROWING node 3 is the first without end, by node 1. */
final class TreeEdges {
    private static final String NO_TREE =
        "count 7 = 0; node 0 0 = NO; above 0 0 = NO; cover = NO; bound 0 = NO; pump = NO";

    private static final Scene DRAIN = Scene.of("place 0; step 0; arc 0 0 1 0");
    private static final Scene SPRING = Scene.of("place 0; step 0; arc 0 0 0 1");

    private final Edges e;

    TreeEdges(Edges e) {
        this.e = e;
    }

    void all() {
        tree();
        node();
        above();
        cover();
        bound();
        pump();
    }

    private void tree() {
        e.of(38, "THE TREE is made: how many NODES.", () -> {
            e.run(Scenes.EMPTY, "tree 1 = 1; count 7 = 1; above 0 0 = NONE; cover = 0; pump = NONE; tree 2000 = 1");
            e.run(DRAIN, "tree 1 = 1; mark 0 3; count 7 = 1; node 0 0 = 0; tree 4 = 4; node 0 0 = 3; go 0; tree 4 = 3",
                "node 0 0 = 2");
            e.leaves(Scenes.BOUNDED, "tree 19 = 19");
            e.leaves(Scenes.GROWING, "tree 6 = 6");
            e.changes(Scenes.BOUNDED.then("mark 0 0"), "tree 2000 = 4", Look.Part.TREE);
            e.changes(Scenes.UNFOUND, "tree 50 = 19", Look.Part.TREE);
        });
        e.of(38, "BAD: most is not 1 .. 2000;", () -> {
            e.run(Scene.of("place 0"), "tree 1 = 1; tree 2000 = 1; tree 0 = BAD; tree 2001 = BAD; count 7 = 1");
            e.refuses(Scenes.BOUNDED, "BAD", "tree 0", "tree -1", "tree 2001", "tree MIN", "tree MAX");
            e.refuses(Scenes.COLOURED, "BAD", "tree 0", "tree 2001");
            e.refuses(Scenes.KINDS, "BAD", "tree 0", "tree 2001");
            e.refuses(Scenes.EMPTY, "BAD", "tree 0");
        });
        e.of(38, "NO: a PLACE is COLOURED, or a STEP neither PLAIN nor GUARDED;", () -> {
            e.refuses(Scenes.COLOURED, "NO", "tree 1", "tree 2000");
            e.refuses(Scenes.KINDS, "NO", "tree 1", "tree 2000");
            e.refuses(Scenes.UNFOUND.then("place 1"), "NO", "tree 50");
            e.refuses(Scenes.UNFOUND.then("step 2"), "NO", "tree 50");
            e.refuses(Scenes.UNFOUND.then("step 3"), "NO", "tree 50");
            e.run(Scenes.UNFOUND, "step 1; tree 2000 = 29; step 0; tree 2000 = 39");
            e.refuses(Scene.of("3* step 0; step 3; place 0; step 0; arc 4 0 0 1"), "NO", "tree 1");
            e.refuses(Scene.of("step 2"), "NO", "tree 1");
            e.refuses(Scene.of("15* step 1; step 3"), "NO", "tree 2000");
        });
        e.of(38, "SPENT: there are more than most (there is no TREE then).", () -> {
            e.changes(Scenes.BOUNDED, "tree 18 = SPENT", Look.Part.TREE);
            e.changes(Scenes.GROWING, "tree 5 = SPENT", Look.Part.TREE);
            e.run(Scenes.BOUNDED, "tree 18 = SPENT", NO_TREE, "tree 19 = 19; count 7 = 19");
            e.run(Scenes.GROWING, "tree 1 = SPENT", NO_TREE, "tree 5 = SPENT; tree 6 = 6");
            e.run(DRAIN, "mark 0 1999; tree 1999 = SPENT", NO_TREE, "tree 2000 = 2000; mark 0 2000; tree 2000 = SPENT",
                NO_TREE);
            e.run(DRAIN, "mark 0 1; tree 1 = SPENT; tree 2 = 2");
        });
    }

    private void node() {
        e.of(39, "MARKS of a PLACE in NODE i, or ENDLESS.", () -> {
            e.leaves(Scenes.GROWING, "node 0 3 = 1", "node 3 2 = ENDLESS", "node 3 0 = 1", "node 5 2 = ENDLESS",
                "node 5 3 = 0");
            e.run(Scenes.BOUNDED, "node 0 0 = 2; node 1 1 = 2; node 18 2 = 3; mark 0 9; node 0 0 = 2");
            e.run(DRAIN, "mark 0 1999; tree 2000; node 1999 0 = 0; node 0 0 = 1999");
            e.run(Scene.of("16* place 0; step 0; arc 0 0 1 0; arc 0 15 0 1; mark 0 1999; tree 2000 = 2000"),
                "node 1999 15 = 1999; node 1999 0 = 0; node 1998 15 = 1998");
            e.run(DRAIN, "raise 0 1000000000; arc 0 0 9 0; tree 2000 = SPENT; arc 0 0 0 0; tree 2 = 2",
                "node 1 0 = 1000000000");
        });
        e.of(39, "BAD;", () -> {
            e.refuses(Scenes.GROWING, "BAD", "node 0 -1", "node 0 4", "node 0 MIN", "node 0 MAX");
            e.refuses(Scenes.UNFOUND, "BAD", "node 0 -1", "node 0 3", "node -1 3");
            e.refuses(Scenes.WIDEST, "BAD", "node 0 16");
            e.refuses(Scenes.EMPTY, "BAD", "node 0 0");
        });
        e.of(39, "NO: there is no TREE", () -> {
            e.refuses(Scenes.UNFOUND, "NO", "node 0 0", "node 0 2");
            e.refuses(Scenes.COLOURED, "NO", "node 0 0");
            e.run(Scenes.GROWING, "arc 0 0 1 0; node 0 0 = NO");
        });
        e.of(39, "(BAD by i only if there is one).", () -> {
            e.refuses(Scenes.GROWING, "BAD", "node -1 0", "node 6 0", "node MIN 0", "node MAX 0");
            e.refuses(Scenes.UNFOUND, "NO", "node -1 0", "node 6 0", "node MAX 0");
        });
    }

    private void above() {
        e.of(40, "The NODE above NODE i (what 0), the STEP that led there (1): NONE of NODE 0;", () -> {
            e.leaves(Scenes.GROWING, "above 0 0 = NONE", "above 0 1 = NONE", "above 1 0 = 0", "above 1 1 = 2",
                "above 5 0 = 4", "above 5 1 = 1");
            e.run(Scenes.BOUNDED, "above 1 0 = 0; above 3 0 = 0; above 3 1 = 2; above 4 0 = 1; above 4 1 = 0",
                "above 18 0 = 15; above 18 1 = 2");
        });
        e.of(40, "whether it is a LEAF (2): 1, 0.", () -> {
            e.leaves(Scenes.GROWING, "above 0 2 = 0", "above 4 2 = 0", "above 5 2 = 1");
            e.run(Scenes.BOUNDED, "above 4 2 = 0; above 5 2 = 1; above 7 2 = 1; above 18 2 = 0");
        });
        e.of(40, "As for node().", () -> {
            e.refuses(Scenes.GROWING, "BAD", "above 0 -1", "above 0 3", "above 0 MAX", "above -1 0", "above 6 0",
                "above MIN 2");
            e.refuses(Scenes.UNFOUND, "BAD", "above 0 -1", "above 0 3", "above 99 3");
            e.refuses(Scenes.UNFOUND, "NO", "above 0 0", "above 0 2", "above -1 0", "above 99 1");
        });
    }

    private void cover() {
        e.of(41, "The least NODE whose MARKING is nowhere below THE ROW AS MARKS;", () -> {
            e.run(Scenes.GROWING, "row 0; cover = 0; row 1; set 0 1; cover = 1; row 3; set 2 1; cover = 3",
                "set 2 1000000000; cover = 3; set 1 1; cover = 4");
            e.run(Scenes.GROWING, "row 16; set 3 1; set 15 9; set 4 9; cover = 0; set 0 -1; set 1 -1000000000; cover = 0");
            e.run(Scenes.BOUNDED, "row 3; set 0 2; set 1 1; cover = 0; set 0 3; set 1 0; cover = 2; set 0 0; set 2 3",
                "cover = 18");
            e.leaves(Scenes.GROWING.then("row 3; set 2 1"), "cover = 3");
            e.run(Scene.of("place 0; raise 0 1000000000"), "tree 1; row 1; set 0 1000000000; cover = 0");
        });
        e.of(41, "NONE.", () -> {
            e.run(DRAIN, "mark 0 9; tree 10 = 10; mark 0 0; tree 1 = 1; row 1; set 0 1; cover = NONE");
            e.run(Scenes.WIDEST, "row 16; cover = 0; set 15 1; cover = 13; set 14 1; cover = NONE");
            e.leaves(Scenes.GROWING, "cover = NONE");
            e.run(Scenes.GROWING, "row 1; set 0 2; cover = NONE; row 4; set 3 2; cover = NONE; set 3 1; set 2 1",
                "cover = NONE");
            e.run(Scenes.BOUNDED, "row 3; set 2 4; cover = NONE; set 2 3; set 1 1; cover = NONE");
            e.run(Scene.of("place 0; raise 0 999999999"), "tree 1; row 1; set 0 1000000000; cover = NONE");
        });
        e.of(41, "NO: there is no TREE.", () -> {
            e.refuses(Scenes.UNFOUND, "NO", "cover");
            e.refuses(Scenes.COLOURED, "NO", "cover");
            e.run(Scenes.GROWING, "tree 5 = SPENT; row 0; cover = NO");
        });
    }

    private void bound() {
        e.of(42, "The most that a PLACE has in a NODE, or ENDLESS.", () -> {
            e.leaves(Scenes.GROWING, "bound 0 = 1", "bound 1 = 1", "bound 2 = ENDLESS", "bound 3 = 1");
            e.run(Scenes.BOUNDED, "bound 0 = 3; bound 1 = 3; bound 2 = 3");
            e.run(DRAIN, "mark 0 9; tree 10 = 10; bound 0 = 9; mark 0 0; tree 1 = 1; bound 0 = 0");
            e.run(Scene.of("place 0"), "tree 1; bound 0 = 0; mark 0 1000000; bound 0 = 0; tree 1; bound 0 = 1000000");
            e.run(Scene.of("place 0; raise 0 1000000000"), "tree 1; bound 0 = 1000000000");
        });
        e.of(42, "BAD;", () -> {
            e.refuses(Scenes.GROWING, "BAD", "bound -1", "bound 4", "bound MIN", "bound MAX");
            e.refuses(Scenes.UNFOUND, "BAD", "bound -1", "bound 3");
            e.refuses(Scenes.WIDEST, "BAD", "bound 16");
            e.refuses(Scenes.EMPTY, "BAD", "bound 0");
        });
        e.of(42, "NO: there is no TREE.", () -> {
            e.refuses(Scenes.UNFOUND, "NO", "bound 0", "bound 2");
            e.refuses(Scenes.COLOURED, "NO", "bound 0");
        });
    }

    private void pump() {
        e.of(43, "Of the least NODE with an ENDLESS PLACE: THE WAY becomes the STEPS that lead to it from NODE 0,", () -> {
            e.run(Scenes.GROWING, "pump = 1; count 5 = 3; walk 0 = 2; walk 1 = 0; walk 2 = 1; walk 3 = BAD; check = 3");
            e.run(SPRING, "tree 9 = 3; pump = 0; count 5 = 1; walk 0 = 0");
            e.run(Scene.of("2* place 0; 2* step 0; arc 0 0 0 1; arc 1 1 0 1; tree 99"),
                "node 1 0 = ENDLESS; node 2 1 = ENDLESS",
                "pump = 0; count 5 = 1; walk 0 = 0");
            e.changes(Scenes.GROWING, "pump = 1", Look.Part.WAY);
        });
        e.of(43, "and the answer is how many of them, the first ones (0 .. ), lead to the nearest NODE above it by which a"
            + " PLACE of it"
            + " became ENDLESS (those behind them can go again and again).", () -> {
                e.run(SPRING, "tree 9; pump = 0; check = 1");
                e.run(Scenes.GROWING, "pump = 1; go 2; go 0; go 1; go 0; go 1; go 0; go 1; many 2 = 3");
                // (0 5), (1 0), then (1 1): without end at 1 by (1 0), and by that at 0 by (0 5), which is farther
                e.run(Scene.of("2* place 0; 2* step 0; arc 0 1 5 0; arc 0 0 0 1; arc 1 0 1 1; arc 1 1 0 1; mark 1 5",
                    "tree 99 = 5"),
                    "node 2 0 = ENDLESS; node 2 1 = ENDLESS; pump = 1; count 5 = 2");
            });
        e.of(43, "NONE: there is no such NODE (THE WAY stays).", () -> {
            e.leaves(Scenes.BOUNDED, "pump = NONE");
            e.run(Scenes.EMPTY, "tree 1; pump = NONE; count 5 = 0");
        });
        e.of(43, "NO: there is no TREE.", () -> {
            e.refuses(Scenes.UNFOUND, "NO", "pump");
            e.refuses(Scenes.COLOURED, "NO", "pump");
            e.run(Scenes.GROWING, "tree 5 = SPENT; pump = NO; count 5 = 4; tree 6; arc 0 0 1 0; pump = NO; count 5 = 4");
        });
    }
}
