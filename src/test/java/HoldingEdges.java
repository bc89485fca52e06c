/** Promises 10 to 15, sentence by sentence. */
final class HoldingEdges {
    private final Edges e;

    HoldingEdges(Edges e) {
        this.e = e;
    }

    void all() {
        mark();
        thing();
        sweep();
        many();
        kind();
        share();
    }

    private void mark() {
        e.of(10, "A PLAIN PLACE has n MARKS, 0 .. 1000000: how many it had.", () -> {
            e.run(Scenes.BOUNDED, "mark 0 0 = 2; many 0 = 0; mark 0 1 = 0; many 0 = 1; mark 0 1000000 = 1");
            e.run(Scenes.BOUNDED, "mark 0 1000000 = 2; many 0 = 1000000; mark 0 0 = 1000000; mark 2 5 = 0; many 2 = 5");
            e.run(Scenes.WIDEST, "mark 15 1000000 = 0; many 15 = 1000000; many 14 = 0");
            e.changes(Scenes.BOUNDED, "mark 0 7 = 2", Look.Part.MARKS, Look.Part.PAST, Look.Part.DRAINS);
            e.changes(Scenes.BOUNDED, "mark 0 2 = 2", Look.Part.PAST);
            e.run(Scenes.BOUNDED, "count 2 = 3; mark 0 2 = 2; count 2 = 0; back = NO; count 3 = 4");
        });
        e.of(10, "BAD", () -> {
            e.refuses(Scenes.BOUNDED, "BAD", "mark 0 -1", "mark 0 1000001", "mark 0 MIN", "mark 0 MAX", "mark -1 0",
                "mark 3 0", "mark MIN 0", "mark MAX 0");
            e.refuses(Scenes.WIDEST, "BAD", "mark 16 0");
            e.refuses(Scenes.COLOURED, "BAD", "mark 1 -1", "mark 1 1000001", "mark 3 0");
            e.refuses(Scenes.EMPTY, "BAD", "mark 0 0");
        });
        e.of(10, "NO: it is COLOURED.", () ->
            e.refuses(Scenes.COLOURED, "NO", "mark 1 0", "mark 1 1000000", "mark 2 1"));
    }

    private void thing() {
        e.of(11, "A THING of a KIND comes behind those of a COLOURED PLACE: how many it has.", () -> {
            e.run(Scenes.COLOURED, "thing 1 1 = 3; kind 1 2 = 1; kind 1 0 = 0; kind 1 1 = 3; many 1 = 3; many 2 = 5");
            e.run(Scene.of("place 1"), "thing 0 3 = 1; thing 0 0 = 2; thing 0 2 = 3; thing 0 1 = 4; kind 0 0 = 3",
                "kind 0 1 = 0; kind 0 2 = 2; kind 0 3 = 1; kind 0 4 = BAD");
            e.changes(Scenes.COLOURED, "thing 1 1 = 3", Look.Part.MARKS, Look.Part.PAST, Look.Part.DRAINS);
            e.run(Scenes.COLOURED, "count 2 = 4; thing 1 1 = 3; count 2 = 0; back = NO; count 3 = 4");
        });
        e.of(11, "BAD", () -> {
            e.refuses(Scenes.COLOURED, "BAD", "thing 1 -1", "thing 1 4", "thing 1 MIN", "thing 1 MAX", "thing -1 0",
                "thing 3 0", "thing MAX 0", "thing 0 -1", "thing 0 4");
            e.refuses(Scenes.FULL_OF_THINGS, "BAD", "thing 1 -1", "thing 1 4");
            e.refuses(Scenes.EMPTY, "BAD", "thing 0 0");
        });
        e.of(11, "NO: it is PLAIN;", () -> {
            e.refuses(Scenes.COLOURED, "NO", "thing 0 0", "thing 0 3");
            e.refuses(Scenes.BOUNDED, "NO", "thing 0 0", "thing 2 3");
            e.refuses(Scene.of("place 0; mark 0 20"), "NO", "thing 0 0");
        });
        e.of(11, "FULL", () -> {
            e.run(Scene.of("place 1; place 1; 19* thing 0 1"),
                "thing 0 3 = 20; thing 0 2 = FULL; many 0 = 20; kind 0 19 = 3",
                "kind 0 20 = BAD; thing 1 2 = 1; sweep 0 = 20; thing 0 2 = 1");
            e.refuses(Scenes.FULL_OF_THINGS, "FULL", "thing 1 0", "thing 1 3");
        });
    }

    private void sweep() {
        e.of(12, "A COLOURED PLACE has no THINGS: how many it had.", () -> {
            e.run(Scenes.COLOURED, "sweep 1 = 2; many 1 = 0; kind 1 0 = BAD; sweep 1 = 0; many 2 = 5; thing 1 2 = 1",
                "kind 1 0 = 2");
            e.run(Scenes.FULL_OF_THINGS, "sweep 1 = 20; many 1 = 0; thing 1 0 = 1");
            e.changes(Scenes.COLOURED, "sweep 1 = 2", Look.Part.MARKS, Look.Part.PAST, Look.Part.DRAINS);
            e.run(Scene.of("place 1; step 0; go 0"), "count 2 = 1; sweep 0 = 0; count 2 = 0; back = NO; count 3 = 1");
        });
        e.of(12, "BAD", () -> {
            e.refuses(Scenes.COLOURED, "BAD", "sweep -1", "sweep 3", "sweep MIN", "sweep MAX");
            e.refuses(Scenes.WIDEST, "BAD", "sweep 16");
            e.refuses(Scenes.EMPTY, "BAD", "sweep 0");
        });
        e.of(12, "NO: it is PLAIN.", () -> {
            e.refuses(Scenes.COLOURED, "NO", "sweep 0");
            e.refuses(Scenes.BOUNDED, "NO", "sweep 0", "sweep 2");
        });
    }

    private void many() {
        e.of(13, "HOW MANY a PLACE has.", () -> {
            e.leaves(Scenes.BOUNDED, "many 0 = 2", "many 1 = 1", "many 2 = 0");
            e.leaves(Scenes.FULL_OF_THINGS, "many 0 = 0", "many 1 = 20", "many 2 = 5");
            e.run(Scene.of("place 0; mark 0 1000000"), "many 0 = 1000000");
            e.run(Scene.of("place 0; raise 0 1000000000"), "many 0 = 1000000000");
        });
        e.of(13, "BAD", () -> {
            e.refuses(Scenes.BOUNDED, "BAD", "many -1", "many 3", "many MIN", "many MAX");
            e.refuses(Scenes.WIDEST, "BAD", "many 16");
            e.run(Scenes.WIDEST, "many 15 = 0");
            e.refuses(Scenes.EMPTY, "BAD", "many 0");
        });
    }

    private void kind() {
        e.of(14, "The KIND of THING i of a COLOURED PLACE, the first one being 0.", () -> {
            e.leaves(Scenes.COLOURED, "kind 1 0 = 0", "kind 1 1 = 3", "kind 2 0 = 1", "kind 2 4 = 3");
            e.run(Scenes.FULL_OF_THINGS, "kind 1 0 = 3; kind 1 17 = 3; kind 1 18 = 1; kind 1 19 = 1");
        });
        e.of(14, "BAD: no such PLACE,", () -> {
            e.refuses(Scenes.COLOURED, "BAD", "kind -1 0", "kind 3 0", "kind MIN 0", "kind MAX 0", "kind 3 -1");
            e.refuses(Scenes.EMPTY, "BAD", "kind 0 0");
        });
        e.of(14, "or, of a COLOURED one, no such THING;", () -> {
            e.refuses(Scenes.COLOURED, "BAD", "kind 1 -1", "kind 1 2", "kind 2 5", "kind 1 MIN", "kind 1 MAX");
            e.refuses(Scenes.FULL_OF_THINGS, "BAD", "kind 1 20");
            e.refuses(Scene.of("place 1"), "BAD", "kind 0 0");
        });
        e.of(14, "NO: it is PLAIN (whatever i is).", () -> {
            e.refuses(Scenes.COLOURED, "NO", "kind 0 0", "kind 0 -1", "kind 0 20", "kind 0 MIN", "kind 0 MAX");
            e.refuses(Scenes.BOUNDED, "NO", "kind 0 0", "kind 0 1", "kind 0 2");
        });
    }

    private void share() {
        e.of(15, "HOW MANY a PLACE has of all that there are, in thousandths, cut down.", () -> {
            e.leaves(Scenes.BOUNDED, "share 0 = 666", "share 1 = 333", "share 2 = 0");
            e.leaves(Scenes.COLOURED, "share 0 = 0", "share 1 = 285", "share 2 = 714");
            e.run(Scene.of("2* place 0; mark 0 999"), "share 0 = 1000; mark 1 1; share 0 = 999; share 1 = 1");
            e.run(Scene.of("2* place 0; mark 0 1000; mark 1 1"), "share 0 = 999; share 1 = 0");
            e.run(Scene.of("2* place 0; mark 0 1000000; mark 1 1"), "share 0 = 999; share 1 = 0");
            e.run(Scene.of("2* place 0; raise 0 1000000000; raise 1 1000000000"), "share 0 = 500; share 1 = 500");
            e.run(allFull(), "share 0 = 62; share 15 = 62");
        });
        e.of(15, "BAD", () -> {
            e.refuses(Scenes.BOUNDED, "BAD", "share -1", "share 3", "share MIN", "share MAX");
            e.refuses(Scene.of("place 0"), "BAD", "share -1", "share 1");
            e.refuses(Scenes.EMPTY, "BAD", "share 0");
        });
        e.of(15, "NO: there is nothing anywhere.", () -> {
            e.refuses(Scene.of("place 0; place 1"), "NO", "share 0", "share 1");
            e.run(Scene.of("place 0; place 1; thing 1 0"),
                "share 0 = 0; share 1 = 1000; sweep 1; share 0 = NO; share 1 = NO");
            e.run(Scene.of("place 0; place 1; mark 0 1"), "share 0 = 1000; share 1 = 0; mark 0 0; share 0 = NO");
        });
    }

    /** 16 places with 1000000000 each: all together do not go into an int. */
    private static Scene allFull() {
        Scene scene = Scene.of("16* place 0");
        for (int p = 0; p < 16; p++) {
            scene = scene.then("raise " + p + " 1000000000");
        }
        return scene;
    }
}
