/** Promises 50 to 56, sentence by sentence. */
final class SetsEdges {
    /** Two rings, 0 and 3, 1 and 2, and place 4 into which step 0 puts. */
    static final Scene RINGS = Scene.of("5* place 0; 4* step 0",
        "arc 0 0 1 0; arc 0 3 0 1; arc 1 3 1 0; arc 1 0 0 1; arc 2 1 1 0; arc 2 2 0 1; arc 3 2 1 0; arc 3 1 0 1",
        "arc 0 4 0 1",
        "mark 0 1; go 0; row 2; lay 0");

    private static final Scene SIXTEEN = Scene.of("16* place 0; row 1; sets 0 500");

    private final Edges e;

    SetsEdges(Edges e) {
        this.e = e;
    }

    void all() {
        sets();
        bits();
        isSet();
        greatest();
        free();
        bare();
        count();
    }

    /** Every step puts everywhere: a drain has one of each of sixteen fours, and there are more than 500 least ones. */
    static Scene manySets() {
        Scene scene = Scene.of("16* place 0; 16* step 0");
        for (int s = 0; s < 16; s++) {
            for (int p = 0; p < 16; p++) {
                int apart = (p - s + 16) % 16;
                scene = scene.then("arc " + s + " " + p + (apart < 3 || apart == 4 ? " 1 1" : " 0 1"));
            }
        }
        return scene;
    }

    private void sets() {
        e.of(50, "The LEAST DRAINS (what 0), or TRAPS (1), by their bits as numbers,", () -> {
            e.run(RINGS, "sets 0 500 = 2; bits 0 = 6; bits 1 = 9; sets 1 500 = 3; bits 0 = 6; bits 1 = 9; bits 2 = 16");
            e.run(SIXTEEN, "sets 0 500 = 16; bits 0 = 1; bits 1 = 2; bits 15 = 32768; sets 1 500 = 16; bits 15 = 32768");
            e.run(Scenes.EMPTY, "sets 0 1 = 0; sets 1 500 = 0; count 10 = 0");
            e.run(Scene.of("place 0; step 0; arc 0 0 0 1"), "sets 0 1 = 0; sets 1 1 = 1; bits 0 = 1");
            e.run(Scene.of("place 0; step 0; arc 0 0 1 0"), "sets 1 1 = 0; sets 0 1 = 1; bits 0 = 1; sets 1 1 = 0",
                "count 10 = 0; bits 0 = BAD");
        });
        e.of(50, "the first most ones (1 .. 500): how many these are.", () -> {
            e.run(RINGS, "sets 1 1 = 1; bits 0 = 6; bits 1 = BAD; sets 1 2 = 2; bits 1 = 9; sets 1 3 = 3; sets 1 4 = 3",
                "sets 1 500 = 3");
            e.run(manySets(), "sets 0 500 = 500; count 10 = 500; bits 500 = BAD; sets 0 499 = 499; bits 499 = BAD",
                "sets 0 1 = 1");
        });
        e.of(50, "They are the SETS.", () -> {
            e.leaves(Scenes.BOUNDED, "sets 0 9 = 1");
            e.changes(Scenes.BOUNDED, "sets 1 9 = 1", Look.Part.SETS);
            e.changes(RINGS, "sets 0 1 = 1", Look.Part.SETS);
            e.run(RINGS, "sets 1 9 = 3; count 10 = 3; sets 0 1 = 1; count 10 = 1; bits 0 = 6; bits 1 = BAD");
            e.run(Scenes.BOUNDED, "sets 1 9 = 1; bits 0 = 4; arc 2 1 0 0; count 10 = 0; bits 0 = BAD");
        });
        e.of(50, "BAD", () -> {
            e.refuses(Scenes.BOUNDED, "BAD", "sets -1 9", "sets 2 9", "sets 0 0", "sets 0 -1", "sets 1 501", "sets MIN 9",
                "sets MAX 9",
                "sets 0 MIN", "sets 1 MAX");
            e.refuses(Scenes.COLOURED, "BAD", "sets 0 0", "sets 0 501");
            e.refuses(Scenes.EMPTY, "BAD", "sets 0 0", "sets 2 1");
        });
    }

    private void bits() {
        e.of(51, "The bits of SET k.", () -> {
            e.leaves(Scenes.BOUNDED, "bits 0 = 3");
            e.leaves(SIXTEEN, "bits 0 = 1", "bits 15 = 32768");
            e.run(manySets(), "sets 0 500; bits 0; bits 499");
        });
        e.of(51, "BAD (also without SETS).", () -> {
            e.refuses(Scenes.BOUNDED, "BAD", "bits -1", "bits 1", "bits MIN", "bits MAX");
            e.refuses(SIXTEEN, "BAD", "bits 16", "bits -1");
            e.refuses(Scenes.UNFOUND, "BAD", "bits 0", "bits -1");
            e.refuses(Scenes.EMPTY.then("sets 0 1 = 0"), "BAD", "bits 0");
        });
    }

    private void isSet() {
        e.of(52, "Whether a set is a DRAIN (what 0), a TRAP (1): 1, 0.", () -> {
            e.leaves(RINGS, "isSet 9 0 = 1", "isSet 1 0 = 0", "isSet 16 0 = 0", "isSet 16 1 = 1", "isSet 31 0 = 1",
                "isSet 31 1 = 1");
            e.run(RINGS, "isSet 15 0 = 1; isSet 17 0 = 0; isSet 17 1 = 1; isSet 24 1 = 0; isSet 25 0 = 1; isSet 8 1 = 0");
            e.run(SIXTEEN, "isSet 65535 0 = 1; isSet 65535 1 = 1; isSet 32768 0 = 1");
        });
        e.of(52, "BAD: what;", () -> {
            e.refuses(RINGS, "BAD", "isSet 9 -1", "isSet 9 2", "isSet 9 MIN", "isSet 9 MAX", "isSet 0 2", "isSet 32 2");
            e.refuses(Scenes.EMPTY, "BAD", "isSet 0 -1", "isSet 0 2");
        });
        e.of(52, "bits that are no set of PLACES", () -> {
            e.refuses(RINGS, "BAD", "isSet 32 0", "isSet 33 1", "isSet -1 0", "isSet MIN 1", "isSet MAX 0");
            e.refuses(SIXTEEN, "BAD", "isSet 65536 0", "isSet 65537 1");
            e.refuses(Scenes.EMPTY, "BAD", "isSet 1 0", "isSet -1 1");
        });
        e.of(52, "(empty ones are, and are neither).", () -> {
            e.leaves(RINGS, "isSet 0 0 = 0", "isSet 0 1 = 0");
            e.leaves(Scenes.EMPTY, "isSet 0 0 = 0", "isSet 0 1 = 0");
        });
    }

    private void greatest() {
        e.of(53, "THE GREATEST DRAIN (what 0), TRAP (1) within a set.", () -> {
            e.leaves(RINGS, "greatest 31 0 = 31", "greatest 30 0 = 6", "greatest 30 1 = 22", "greatest 8 0 = 0",
                "greatest 0 0 = 0", "greatest 0 1 = 0");
            e.run(SIXTEEN, "greatest 65535 0 = 65535; greatest 32768 1 = 32768");
            e.leaves(Scenes.EMPTY, "greatest 0 0 = 0", "greatest 0 1 = 0");
            e.run(falling(), "greatest 65535 0 = 0; greatest 65535 1 = 65535; arc 15 15 0 0; greatest 65535 0 = 65535",
                "greatest 32767 0 = 0");
        });
        e.of(53, "BAD, as for isSet().", () -> {
            e.refuses(RINGS, "BAD", "greatest 9 -1", "greatest 9 2", "greatest 32 0", "greatest -1 1", "greatest MIN 0",
                "greatest MAX 1");
            e.refuses(SIXTEEN, "BAD", "greatest 65536 0");
            e.refuses(Scenes.EMPTY, "BAD", "greatest 1 0", "greatest 0 2");
        });
    }

    /** From place 15 down to place 0, and step 15 fills place 15 from nowhere: of drains one place goes after the other. */
    private static Scene falling() {
        Scene scene = Scene.of("16* place 0; 16* step 0; arc 15 15 0 9");
        for (int s = 0; s < 15; s++) {
            scene = scene.then("arc " + s + " " + (15 - s) + " 1 0; arc " + s + " " + (14 - s) + " 0 1");
        }
        return scene;
    }

    private void free() {
        e.of(54, "Whether THE NET is FREE: 1, 0.", () -> {
            e.leaves(Scenes.WIDEST, "free = 1");
            e.leaves(Scenes.BOUNDED, "free = 0");
            e.leaves(Scenes.COLOURED, "free = 0");
            e.leaves(Scenes.EMPTY, "free = 1");
        });
    }

    private void bare() {
        e.of(55, "Of all LEAST DRAINS that are BARE the first one by its bits;", () -> {
            e.leaves(RINGS, "bare = 6");
            e.run(RINGS, "mark 1 1; bare = 0; mark 3 0; bare = 9; mark 1 0; bare = 6; mark 2 1; bare = 9");
            e.run(SIXTEEN, "bare = 1; mark 0 1; bare = 2; mark 1 1; bare = 4");
            e.leaves(Scenes.BOUNDED, "bare = 3");
            e.run(Scene.of("place 1; step 0"), "bare = 1; thing 0 0; bare = 0; sweep 0; bare = 1");
        });
        e.of(55, "0: there is none.", () -> {
            e.leaves(Scenes.EMPTY, "bare = 0");
            e.leaves(RINGS.then("mark 1 1"), "bare = 0");
            e.leaves(Scenes.WIDEST, "bare = 0");
            e.leaves(Scene.of("place 0; step 0; arc 0 0 0 1"), "bare = 0");
        });
    }

    private void count() {
        e.of(56, "How many: 0 PLACES,", () -> {
            e.leaves(Scenes.BOUNDED, "count 0 = 3");
            e.run(Scene.of("16* place 0"), "count 0 = 16; place 0 = FULL; count 0 = 16");
        });
        e.of(56, "1 STEPS,", () -> {
            e.leaves(Scenes.KINDS, "count 1 = 4");
            e.run(Scene.of("16* step 0"), "count 1 = 16; step 0 = FULL; count 1 = 16");
        });
        e.of(56, "2 goings of THE PAST,", () -> {
            e.leaves(Scenes.BOUNDED, "count 2 = 3");
            e.run(GoingEdges.CAROUSEL, "count 2 = 0; run 255; count 2 = 255; run 1; count 2 = 256; run 1; count 2 = 256",
                "back; count 2 = 255; run 2; count 2 = 256; run 1000; count 2 = 256");
        });
        e.of(56, "3 goings in all (undone ones, too),", () -> {
            e.leaves(Scenes.BOUNDED, "count 3 = 4");
            e.run(GoingEdges.CAROUSEL, "run 1000; count 3 = 1000; back; count 3 = 1000; go 3; count 3 = 1001; mark 0 1",
                "arc 0 0 1 0; count 3 = 1001");
        });
        e.of(56, "4 numbers of THE ROW,", () -> {
            e.leaves(Scenes.BOUNDED, "count 4 = 5");
            e.run(Scenes.EMPTY, "count 4 = 0; row 16; count 4 = 16; row 17 = BAD; count 4 = 16; row 0; count 4 = 0");
        });
        e.of(56, "5 STEPS of THE WAY,", () -> {
            e.leaves(Scenes.BOUNDED, "count 5 = 3");
            e.leaves(Scenes.LONGEST, "count 5 = 8000");
        });
        e.of(56, "6 MARKINGS of THE FIELD,", () -> {
            e.leaves(Scenes.BOUNDED, "count 6 = 10");
            e.leaves(Scenes.LONGEST, "count 6 = 8000");
        });
        e.of(56, "7 NODES of THE TREE,", () -> {
            e.leaves(Scenes.BOUNDED, "count 7 = 19");
            e.run(Scene.of("place 0; step 0; arc 0 0 1 0; mark 0 1999; tree 2000"), "count 7 = 2000");
        });
        e.of(56, "8 WEIGHTS,", () -> {
            e.leaves(Scenes.BOUNDED, "count 8 = 1");
            e.run(Scene.of("16* place 0; weights"), "count 8 = 16");
        });
        e.of(56, "9 ROUNDS,", () -> {
            e.leaves(Scenes.COLOURED, "count 9 = 2");
            e.run(Scene.of("16* step 0; rounds"), "count 9 = 16");
        });
        e.of(56, "10 SETS", () -> {
            e.leaves(Scenes.BOUNDED, "count 10 = 1");
            e.run(manySets(), "sets 0 500; count 10 = 500");
        });
        e.of(56, "(0 without).", () -> {
            e.leaves(Scenes.UNFOUND, "count 6 = 0", "count 7 = 0", "count 8 = 0", "count 9 = 0", "count 10 = 0");
            e.run(Scenes.BOUNDED, "field 9 = SPENT; count 6 = 0; tree 18 = SPENT; count 7 = 0; arc 0 0 1 0; count 8 = 0",
                "count 9 = 0; count 10 = 0");
        });
        e.of(56, "BAD", () -> {
            e.refuses(Scenes.BOUNDED, "BAD", "count -1", "count 11", "count MIN", "count MAX");
            e.refuses(Scenes.EMPTY, "BAD", "count -1", "count 11");
        });
    }
}
