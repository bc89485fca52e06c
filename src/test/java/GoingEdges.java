/** Promises 16 to 19, sentence by sentence. */
final class GoingEdges {
    /** Four steps in a ring, each of which puts a thing of its own kind behind four others: what it was, shows. */
    static final Scene CAROUSEL = Scene.of("4* place 0; place 1; 4* step 0", Scenes.ring(4),
        "arc 0 4 1 1; want 0 4 0 0; arc 1 4 1 1; want 1 4 0 1; arc 2 4 1 1; want 2 4 0 2; arc 3 4 1 1; want 3 4 0 3",
        "mark 0 1; 5* thing 4 0");

    /** Step 0 takes 1 from place 0 and puts 9 into place 1. */
    static final Scene FILLING = Scene.of("2* place 0; step 0; arc 0 0 1 0; arc 0 1 0 9; mark 0 5");

    /** Step 0 is urgent and may, step 1 is not and may, step 2 may not. */
    static final Scene URGED = Scene.of("2* place 0; step 3; 2* step 0; arc 0 0 1 0; arc 1 0 1 0; arc 2 1 1 0; mark 0 2",
        "go 0; row 2; lay 1");

    private final Edges e;

    GoingEdges(Edges e) {
        this.e = e;
    }

    void all() {
        may();
        go();
        run();
        back();
    }

    private void may() {
        e.of(16, "0 a STEP may not go;", () -> {
            e.leaves(URGED, "may 2 = 0");
            e.run(URGED, "mark 0 0; may 0 = 0; may 1 = 0; may 2 = 0");
            e.leaves(Scenes.COLOURED, "may 0 = 0", "may 3 = 0");
        });
        e.of(16, "1 it GOES;", () -> {
            e.leaves(URGED, "may 0 = 1");
            e.run(URGED, "mark 0 0; mark 1 1; may 2 = 1; arc 1 0 0 0; may 1 = 1");
            e.leaves(Scenes.COLOURED, "may 1 = 1", "may 2 = 1");
            e.run(FILLING, "raise 1 1000000000; may 0 = 1; go 0 = FULL; may 0 = 1");
        });
        e.of(16, "2 it MAY, but an URGENT one MAY, and it is none.", () -> {
            e.leaves(URGED, "may 1 = 2");
            e.run(URGED, "mark 1 1; may 2 = 2; go 0 = 0; may 2 = 1; may 1 = 0");
            e.run(URGED, "step 1; step 2; may 3 = 2; may 4 = 2; step 3; may 5 = 1; may 0 = 1");
        });
        e.of(16, "BAD", () -> {
            e.refuses(URGED, "BAD", "may -1", "may 3", "may MIN", "may MAX");
            e.refuses(Scenes.WIDEST, "BAD", "may 16");
            e.run(Scenes.WIDEST, "may 15 = 0");
            e.refuses(Scenes.EMPTY, "BAD", "may 0");
        });
    }

    private void go() {
        e.of(17, "A STEP goes: 0.", () -> {
            e.run(FILLING, "go 0 = 0; many 0 = 4; many 1 = 9; count 2 = 1; count 3 = 1; 4* go 0; many 0 = 0; many 1 = 45");
            e.changes(Scenes.BOUNDED, "go 0 = 0", Look.Part.MARKS, Look.Part.PAST, Look.Part.GOINGS, Look.Part.DRAINS);
            e.changes(Scenes.COLOURED, "go 1 = 0", Look.Part.PAST, Look.Part.GOINGS);
            e.run(Scenes.COLOURED, "go 1 = 0; count 2 = 5; count 3 = 5; back = 1; back = 1");
        });
        e.of(17, "BAD", () -> {
            e.refuses(Scenes.BOUNDED, "BAD", "go -1", "go 3", "go MIN", "go MAX");
            e.refuses(Scenes.WIDEST, "BAD", "go 16");
            e.refuses(Scenes.EMPTY, "BAD", "go 0");
        });
        e.of(17, "NO: it does not GO;", () -> {
            e.refuses(URGED, "NO", "go 1", "go 2");
            e.refuses(Scenes.COLOURED, "NO", "go 0", "go 3");
            e.refuses(Scenes.WIDEST, "NO", "go 15", "go 0");
            e.refuses(FILLING.then("mark 0 0; raise 1 1000000000"), "NO", "go 0");
            e.refuses(Scene.of("place 0; place 1; step 0; arc 0 0 1 0; arc 0 1 0 9; 20* thing 1 0"), "NO", "go 0");
        });
        e.of(17, "FULL", () -> {
            e.run(FILLING.then("raise 1 999999991"), "go 0 = 0; many 1 = 1000000000; go 0 = FULL; many 0 = 4; count 3 = 1");
            e.refuses(FILLING.then("go 0; raise 1 999999992"), "FULL", "go 0");
            e.refuses(Scenes.FULL_OF_THINGS.then("arc 1 1 0 1; go 2"), "FULL", "go 1");
        });
    }

    private void run() {
        e.of(18, "Again and again, n times (1 .. 1000) at most, the least STEP that GOES goes,", () -> {
            Scene many = Scene.of("2* place 0; 3* step 0; step 3; arc 0 1 1 0; arc 1 0 1 0; arc 2 0 1 0; arc 3 1 2 0",
                "mark 0 5000");
            e.run(many, "run 1 = 1; many 0 = 4999; back = 1; run 1000 = 1000; many 0 = 4000; count 3 = 1001; count 2 = 256");
            e.run(many, "mark 1 3; run 2 = 2; many 1 = 0; back = 0; back = 3; run 3 = 3; back = 1; back = 0; back = 3");
            e.changes(Scenes.BOUNDED, "run 2 = 2", Look.Part.MARKS, Look.Part.PAST, Look.Part.GOINGS, Look.Part.DRAINS);
        });
        e.of(18, "until none GOES,", () -> {
            Scene drain = Scene.of("place 0; step 0; arc 0 0 1 0");
            e.leaves(drain, "run 1 = 0", "run 1000 = 0");
            e.run(drain, "mark 0 999; run 1000 = 999; many 0 = 0; run 1000 = 0; mark 0 1000; run 1000 = 1000; run 1 = 0");
            e.run(drain, "mark 0 1001; run 1000 = 1000; many 0 = 1; run 1000 = 1; mark 0 1; run 1 = 1; run 1 = 0");
            e.run(Scenes.EMPTY, "run 1 = 0; run 1000 = 0");
        });
        e.of(18, "or that one is FULL: how often.", () -> {
            e.run(FILLING.then("raise 1 999999982"), "run 5 = 2; many 1 = 1000000000; many 0 = 3; count 3 = 2; run 5 = 0");
            e.leaves(FILLING.then("go 0; raise 1 999999992"), "run 1000 = 0");
            Scene things = Scene.of("place 1; 2* step 0; arc 0 0 0 3; 12* thing 0 1");
            e.run(things, "run 9 = 2; many 0 = 18; run 9 = 0; may 1 = 1; count 3 = 2");
            e.leaves(things.then("3* thing 0 1; go 0; go 1"), "run 1 = 0", "run 1000 = 0");
        });
        e.of(18, "BAD", () -> {
            e.refuses(Scenes.BOUNDED, "BAD", "run 0", "run -1", "run 1001", "run MIN", "run MAX");
            e.refuses(Scenes.EMPTY, "BAD", "run 0", "run 1001");
        });
    }

    private void back() {
        e.of(19, "The latest going of THE PAST is undone (PLACES have what they had, THINGS in their order): the STEP.", () -> {
            e.changes(Scenes.BOUNDED, "back = 1", Look.Part.MARKS, Look.Part.PAST, Look.Part.DRAINS);
            e.run(Scenes.BOUNDED, "back = 1; many 0 = 1; many 1 = 2; back = 0; back = 0; many 0 = 3; many 1 = 0",
                "count 3 = 4");
            e.run(Scenes.COLOURED, "back = 1; back = 0; kind 1 0 = 0; kind 1 1 = 3; kind 1 2 = 1; many 1 = 3; many 2 = 3",
                "back = 2; back = 0; kind 1 0 = 0; kind 1 1 = 2; kind 1 2 = 3; kind 1 3 = 1; many 1 = 4; many 2 = 1");
            e.run(CAROUSEL, "run 300 = 300; back = 3; back = 2; back = 1; back = 0; 251* back; count 2 = 1; back = 0",
                "kind 4 0 = 3; kind 4 1 = 0; kind 4 2 = 1; kind 4 3 = 2; kind 4 4 = 3; many 4 = 5; many 0 = 1; many 1 = 0");
        });
        e.of(19, "NO: THE PAST is empty.", () -> {
            e.refuses(Scenes.EMPTY, "NO", "back");
            e.refuses(Scenes.BOUNDED.then("3* back"), "NO", "back");
            e.refuses(Scenes.COLOURED.then("thing 1 0"), "NO", "back");
            e.run(Scene.of("place 0; step 0; arc 0 0 1 0; mark 0 1; go 0"),
                "go 0 = NO; back = 0; back = NO; many 0 = 1; count 3 = 1");
            e.run(CAROUSEL, "run 257 = 257; 256* back; back = NO; many 1 = 1; kind 4 4 = 0; count 2 = 0; count 3 = 257");
        });
    }
}
