/** Promises 44 to 49, sentence by sentence. */
final class BalanceEdges {
    /** What comes of 12 steps, each of which takes so many from its place and puts 1 into the next: 1000000000. */
    private static final int[] BILLION = {8, 8, 8, 5, 5, 5, 5, 5, 5, 5, 5, 5};

    private final Edges e;

    BalanceEdges(Edges e) {
        this.e = e;
    }

    void all() {
        weights();
        rounds();
        keeps();
        turns();
    }

    /** A net by its changes: rows for places and columns for steps, or, if it is turned, the other way round. */
    static Scene net(int[][] changes, boolean turned) {
        int rows = changes.length;
        int columns = changes[0].length;
        Scene scene = Scene.of((turned ? columns : rows) + "* place 0; " + (turned ? rows : columns) + "* step 0");
        for (int r = 0; r < rows; r++) {
            for (int c = 0; c < columns; c++) {
                int change = changes[r][c];
                if (change != 0) {
                    scene = scene.then("arc " + (turned ? r : c) + " " + (turned ? c : r) + " "
                        + Math.max(-change, 0) + " " + Math.max(change, 0));
                }
            }
        }
        return scene;
    }

    /** Rows for a chain from row first on, which weighs 1000000000 at its end, with room for more columns. */
    static int[][] chain(int first, int rows, int columns) {
        int[][] changes = new int[rows][columns];
        for (int s = 0; s < BILLION.length; s++) {
            changes[first + s][s] = -BILLION[s];
            changes[first + s + 1][s] = 1;
        }
        return changes;
    }

    /**
     * One column more behind the chain: so much of it at its end, and so much at its beginning, makes that many times
     * 1000000000, and so many more, among the LEFT numbers of the last row.
     */
    static int[][] left(int ofEnd, int ofBeginning) {
        int[][] changes = chain(0, 13, 13);
        changes[12][12] = ofEnd;
        changes[0][12] = ofBeginning;
        return changes;
    }

    /**
     * Row 0 is taken out at column 12 and goes 1000000000 times into the chain's last row, which is taken out at column
     * 13 and goes into row 14, where RIGHT number 0 becomes that great, and so much more or less.
     */
    static int[][] right(int ofRow14, int sign) {
        int[][] changes = chain(1, 15, 14);
        changes[0][12] = 1;
        changes[13][12] = 1;
        changes[1][13] = 1;
        changes[14][12] = ofRow14;
        changes[14][13] = sign;
        return changes;
    }

    /** Nine times the chain's last row, less nine times row 0, is divided by nine again. */
    static int[][] divided() {
        int[][] changes = chain(1, 14, 13);
        changes[0][12] = 9;
        changes[1][12] = 9;
        return changes;
    }

    private void weights() {
        e.of(44, "The WEIGHTS are found: how many.", () -> {
            e.run(Scenes.EMPTY, "weights = 0; count 8 = 0");
            e.run(Scene.of("16* place 0"), "weights = 16; count 8 = 16; weight 0 0 = 1; weight 15 15 = 1; weight 15 14 = 0");
            e.run(Scenes.WIDEST, "weights = 1; weight 0 0 = 1; weight 0 15 = 1; weight 1 0 = BAD");
            e.run(Scene.of("place 0; step 0; arc 0 0 0 1"), "weights = 0; count 8 = 0; weight 0 0 = BAD");
            e.leaves(Scenes.BOUNDED, "weights = 1");
            e.changes(Scenes.UNFOUND, "weights = 1", Look.Part.WEIGHTS);
            e.changes(Scenes.COLOURED, "weights = 1");
        });
        e.of(44, "SPENT (there are none then).", () -> {
            Scene great = net(left(1, 1), false);
            e.run(great, "weights = SPENT; count 8 = 0; weight 0 0 = BAD");
            e.changes(net(left(2, 0), false).then("step 0; mark 0 9; go 0; rounds = 1; sets 0 9; tree 9 = 5; row 3",
                "lay 0"), "weights = SPENT");
            e.run(net(left(1, 0), false), "weights = 0; arc 12 0 0 1; weights = SPENT; arc 12 12 0 0; arc 12 0 0 0",
                "weights = 1; weight 0 12 = 1000000000",
                "arc 12 12 0 1; arc 12 0 0 1; weights = SPENT; count 8 = 0; weight 0 0 = BAD");
        });
        e.of(45, "Of WEIGHT k the number of a PLACE.", () -> {
            e.leaves(Scenes.BOUNDED, "weight 0 0 = 1", "weight 0 2 = 1");
            e.run(Scene.of("3* place 0; step 0; arc 0 0 2 0; arc 0 1 0 3"),
                "weights = 2; weight 0 0 = 3; weight 0 1 = 2; weight 0 2 = 0; weight 1 2 = 1; weight 1 0 = 0");
            e.run(Scene.of("16* place 0"), "weights = 16; weight 15 15 = 1; weight 0 15 = 0");
        });
        e.of(45, "BAD (also without WEIGHTS).", () -> {
            e.refuses(Scenes.BOUNDED, "BAD", "weight -1 0", "weight 1 0", "weight 0 -1", "weight 0 3", "weight MIN 0",
                "weight MAX 0",
                "weight 0 MIN", "weight 0 MAX");
            e.refuses(Scenes.UNFOUND, "BAD", "weight 0 0", "weight -1 0", "weight 0 3");
            e.refuses(Scene.of("16* place 0; weights"), "BAD", "weight 16 0", "weight 0 16");
            e.refuses(Scenes.EMPTY.then("weights = 0"), "BAD", "weight 0 0");
        });
    }

    private void rounds() {
        e.of(46, "The ROUNDS are found: how many.", () -> {
            e.run(Scenes.EMPTY, "rounds = 0; count 9 = 0");
            e.run(Scene.of("16* step 0"), "rounds = 16; count 9 = 16; round 0 0 = 1; round 15 15 = 1; round 15 14 = 0");
            e.run(Scenes.WIDEST, "rounds = 1; round 0 0 = 1; round 0 15 = 1; round 1 0 = BAD");
            e.run(Scene.of("place 0; step 0; arc 0 0 0 1"), "rounds = 0; count 9 = 0; round 0 0 = BAD");
            e.run(Scene.of("2* place 0; step 0; arc 0 1 0 1"), "rounds = 0; weights = 1; weight 0 0 = 1; weight 0 1 = 0");
            e.run(Scene.of("place 0; 2* step 0; arc 1 0 0 1"), "weights = 0; rounds = 1; round 0 0 = 1; round 0 1 = 0");
            e.leaves(Scenes.BOUNDED, "rounds = 1");
            e.changes(Scenes.UNFOUND, "rounds = 1", Look.Part.ROUNDS);
            e.changes(Scenes.COLOURED, "rounds = 2");
        });
        e.of(46, "SPENT (there are none then).", () -> {
            Scene great = net(left(1, 1), true);
            e.run(great, "rounds = SPENT; count 9 = 0; round 0 0 = BAD");
            e.changes(net(left(2, 0), true).then("place 0; mark 0 9; go 0; weights = 1; sets 0 9; row 3; lay 0"),
                "rounds = SPENT");
            e.run(net(left(1, 0), true), "rounds = 0; arc 0 12 0 1; rounds = SPENT; arc 12 12 0 0; arc 0 12 0 0",
                "rounds = 1; round 0 12 = 1000000000",
                "arc 12 12 0 1; arc 0 12 0 1; rounds = SPENT; count 9 = 0; round 0 0 = BAD");
        });
        e.of(47, "Of ROUND k the number of a STEP.", () -> {
            e.leaves(Scenes.BOUNDED, "round 0 0 = 1", "round 0 1 = 1", "round 0 2 = 0");
            e.run(Scene.of("place 0; 3* step 0; arc 0 0 2 0; arc 1 0 0 3"),
                "rounds = 2; round 0 0 = 3; round 0 1 = 2; round 0 2 = 0; round 1 2 = 1; round 1 0 = 0");
            e.run(Scene.of("16* step 0"), "rounds = 16; round 15 15 = 1; round 0 15 = 0");
        });
        e.of(47, "BAD (also without ROUNDS).", () -> {
            e.refuses(Scenes.BOUNDED, "BAD", "round -1 0", "round 1 0", "round 0 -1", "round 0 3", "round MIN 0",
                "round MAX 0",
                "round 0 MIN", "round 0 MAX");
            e.refuses(Scenes.UNFOUND, "BAD", "round 0 0", "round -1 0", "round 0 3");
            e.refuses(Scene.of("16* step 0; rounds"), "BAD", "round 16 0", "round 0 16");
            e.refuses(Scenes.EMPTY.then("rounds = 0"), "BAD", "round 0 0");
        });
    }

    private void keeps() {
        e.of(48, "Whether no STEP changes the sum of HOW MANY times THE ROW's numbers", () -> {
            e.run(Scenes.BOUNDED, "keeps = 0; row 3; set 0 1; set 1 1; set 2 1; keeps = 1; set 2 2; keeps = 0");
            e.run(Scenes.BOUNDED, "row 3; set 0 -5; set 1 -5; set 2 -5; keeps = 1; set 0 1000000000; set 1 1000000000",
                "set 2 1000000000; keeps = 1; set 0 999999999; keeps = 0");
            e.run(Scene.of("2* place 0; step 0; arc 0 0 9 0; arc 0 1 0 9; row 2"),
                "set 0 1000000000; set 1 -1000000000; keeps = 0; set 1 1000000000; keeps = 1");
            e.run(sixteenths(), "keeps = 0");
            e.run(Scenes.WIDEST, "keeps = 0; row 16; keeps = 1; set 15 1; keeps = 0");
            e.run(Scene.of("place 0; 2* step 0; arc 1 0 0 1; row 1; set 0 1"), "keeps = 0");
            e.run(Scene.of("2* place 0; step 0; arc 0 1 0 1; row 2; set 0 1"), "keeps = 1; set 1 1; keeps = 0");
            e.leaves(Scenes.BOUNDED, "keeps = 0");
            e.leaves(Scenes.COLOURED, "keeps = 0");
        });
        e.of(48, "(number i for PLACE i, 0 if it has none such): 1, 0.", () -> {
            e.leaves(Scenes.EMPTY, "keeps = 1");
            e.run(Scenes.BOUNDED, "row 0; keeps = 1; row 2; set 0 1; set 1 1; keeps = 0; row 16; set 0 1; set 1 1; set 2 1",
                "set 3 7; set 15 -7; keeps = 1");
            e.run(Scene.of("place 0; row 1; set 0 5"),
                "keeps = 1; step 0; keeps = 1; arc 0 0 3 3; keeps = 1; arc 0 0 3 4; keeps = 0");
        });
    }

    /** 16 times 8 times 33554432 is 2 to the 32: no sum that an int would take for 0 is one. */
    private static Scene sixteenths() {
        Scene scene = Scene.of("16* place 0; step 0; row 16");
        for (int p = 0; p < 16; p++) {
            scene = scene.then("arc 0 " + p + " 0 8; set " + p + " 33554432");
        }
        return scene;
    }

    private void turns() {
        e.of(49, "Whether STEPS that go as often as THE ROW's numbers tell", () -> {
            e.run(Scenes.BOUNDED, "turns = 0; row 2; set 0 1; set 1 1; turns = 1; set 1 2; turns = 0; set 0 2; turns = 1");
            e.run(Scenes.BOUNDED, "row 2; set 0 1000000000; set 1 1000000000; turns = 1; set 1 999999999; turns = 0");
            e.run(Scenes.WIDEST, "turns = 0; row 16; turns = 1; set 15 1; turns = 0");
            e.run(Scene.of("place 0; 2* step 0; arc 1 0 0 1; row 2; set 0 1"), "turns = 1; set 1 1; turns = 0");
            e.run(Scene.of("2* place 0; step 0; arc 0 1 0 1; row 1; set 0 1"), "turns = 0");
            e.leaves(Scenes.BOUNDED, "turns = 0");
            e.leaves(Scenes.COLOURED, "turns = 0");
        });
        e.of(49, "(number i for STEP i that there is, 0 if it has none such)", () -> {
            e.leaves(Scenes.EMPTY, "turns = 1");
            e.run(Scenes.BOUNDED, "row 0; turns = 1; row 1; set 0 1; turns = 0; row 16; set 0 1; set 1 1; set 3 7",
                "set 15 -7; turns = 1");
            e.run(Scenes.EMPTY, "row 1; set 0 -1; turns = 1; step 0; turns = 0");
        });
        e.of(49, "change nothing anywhere, none of these numbers being below 0: 1, 0.", () -> {
            e.run(Scenes.BOUNDED, "row 2; set 0 -1; set 1 -1; turns = 0; set 0 0; set 1 0; turns = 1");
            e.run(Scene.of("place 0; 2* step 0; row 2; set 0 1"),
                "turns = 1; set 1 -1; turns = 0; arc 0 0 1 1; set 1 0; turns = 1; arc 0 0 1 2; turns = 0");
            e.run(Scene.of("place 0; step 0; arc 0 0 0 8; row 1; set 0 536870912"), "turns = 0");
            e.run(Scene.of("place 1; step 0; arc 0 0 1 1; row 1; set 0 1"),
                "turns = 1; want 0 0 0 3; turns = 1; arc 0 0 1 2; turns = 0");
        });
    }
}
