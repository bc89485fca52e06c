/** Promises 28 to 37, sentence by sentence. In BOUNDED the markings are (2 1 0), (1 2 0), (3 0 0), (2 0 1), (0 3 0), .. */
final class FieldEdges {
    private static final String NO_FIELD =
        "count 6 = 0; marking 0 0 = NO; next 0 0 = NO; way 0 = NO; find = NO; dead 0 = NO; stuck 0 = NO; home 0 = NO";

    /** Step 0 from place 0 to place 1; place 2 is aside. */
    private static final Scene LINE = Scene.of("3* place 0; step 0; arc 0 0 1 0; arc 0 1 0 1");

    private static final Scene DRAIN = Scene.of("place 0; step 0; arc 0 0 1 0");
    private static final Scene SPRING = Scene.of("place 0; step 0; arc 0 0 0 1");

    private final Edges e;

    FieldEdges(Edges e) {
        this.e = e;
    }

    void all() {
        field();
        marking();
        next();
        way();
        find();
        dead();
        stuck();
        home();
        works();
        fault();
    }

    /** 16 places and 16 steps, each of which moves a mark from the first to the last: 8000 markings. */
    private static Scene largest() {
        Scene scene = Scene.of("16* place 0; 16* step 0; mark 0 7999");
        for (int s = 0; s < 16; s++) {
            scene = scene.then("arc " + s + " 0 1 0; arc " + s + " 15 0 1");
        }
        return scene.then("field 8000 = 8000");
    }

    private void field() {
        e.of(28, "THE FIELD of what there is now is made: how many MARKINGS.", () -> {
            e.run(Scenes.EMPTY, "field 1 = 1; count 6 = 1; home 0 = 1; find = 0; field 8000 = 1");
            e.run(DRAIN, "field 1 = 1; mark 0 3; count 6 = 1; marking 0 0 = 0; field 4 = 4; marking 0 0 = 3; go 0",
                "field 4 = 3; marking 0 0 = 2");
            e.run(Scene.of("2* place 0; 2* step 0", Scenes.ring(2), "mark 0 7999"),
                "field 8000 = 8000; next 7999 1 = 7998; next 0 0 = 1; home 0 = 1; stuck 1 = NONE; dead 0 = NONE");
            e.leaves(Scenes.BOUNDED, "field 10 = 10");
            e.changes(Scenes.BOUNDED.then("mark 0 1"), "field 8000 = 6", Look.Part.FIELD);
            e.changes(Scenes.UNFOUND, "field 50 = 10", Look.Part.FIELD);
        });
        e.of(28, "BAD: most is not 1 .. 8000;", () -> {
            e.run(Scene.of("place 0"), "field 1 = 1; field 8000 = 1; field 0 = BAD; field 8001 = BAD; count 6 = 1");
            e.refuses(Scenes.BOUNDED, "BAD", "field 0", "field -1", "field 8001", "field MIN", "field MAX");
            e.refuses(Scenes.COLOURED, "BAD", "field 0", "field 8001");
            e.refuses(Scenes.EMPTY, "BAD", "field 0");
        });
        e.of(28, "NO: a PLACE is COLOURED;", () -> {
            e.refuses(Scenes.COLOURED, "NO", "field 1", "field 8000");
            e.refuses(Scenes.UNFOUND.then("place 1"), "NO", "field 50");
            e.refuses(SPRING.then("place 1"), "NO", "field 1");
        });
        e.of(28, "SPENT: there are more than most (there is no FIELD then).", () -> {
            e.changes(Scenes.BOUNDED, "field 9 = SPENT", Look.Part.FIELD);
            e.changes(Scenes.BOUNDED, "field 1 = SPENT", Look.Part.FIELD);
            e.run(Scenes.BOUNDED, "field 9 = SPENT", NO_FIELD, "field 10 = 10; count 6 = 10");
            e.run(DRAIN, "mark 0 7999; field 7999 = SPENT", NO_FIELD, "field 8000 = 8000; mark 0 8000; field 8000 = SPENT",
                NO_FIELD);
            e.run(SPRING, "field 1 = SPENT; field 8000 = SPENT", NO_FIELD);
            e.run(DRAIN, "mark 0 1; field 1 = SPENT; field 2 = 2");
        });
    }

    private void marking() {
        e.of(29, "MARKS of a PLACE in MARKING i.", () -> {
            e.leaves(Scenes.BOUNDED, "marking 0 0 = 2", "marking 1 1 = 2", "marking 9 2 = 3", "marking 9 0 = 0");
            e.run(Scenes.BOUNDED, "mark 0 9; marking 0 0 = 2; go 0; marking 0 0 = 2");
            e.run(Scenes.LONGEST, "marking 7999 0 = 0; marking 7998 0 = 1; marking 0 0 = 7999");
            e.run(Scenes.WIDEST, "marking 15 15 = 0; marking 13 15 = 1; marking 15 1 = 1");
            e.run(largest(), "marking 7999 15 = 7999; marking 7999 0 = 0; marking 7998 15 = 7998; marking 0 15 = 0");
        });
        e.of(29, "BAD;", () -> {
            e.refuses(Scenes.BOUNDED, "BAD", "marking 0 -1", "marking 0 3", "marking 0 MIN", "marking 0 MAX");
            e.refuses(Scenes.UNFOUND, "BAD", "marking 0 -1", "marking 0 3", "marking -1 3");
            e.refuses(Scenes.WIDEST, "BAD", "marking 0 16");
            e.refuses(Scenes.EMPTY, "BAD", "marking 0 0");
        });
        e.of(29, "NO: there is no FIELD", () -> {
            e.refuses(Scenes.UNFOUND, "NO", "marking 0 0", "marking 0 2");
            e.refuses(Scenes.GROWING, "NO", "marking 0 0");
            e.refuses(Scenes.COLOURED, "NO", "marking 0 0");
            e.run(Scenes.BOUNDED, "arc 0 0 1 0; marking 0 0 = NO");
        });
        e.of(29, "(BAD by i only if there is one).", () -> {
            e.refuses(Scenes.BOUNDED, "BAD", "marking -1 0", "marking 10 0", "marking MIN 0", "marking MAX 0");
            e.refuses(Scenes.LONGEST, "BAD", "marking 8000 0");
            e.refuses(Scenes.UNFOUND, "NO", "marking -1 0", "marking 10 0", "marking MAX 0");
        });
    }

    private void next() {
        e.of(30, "To which MARKING a STEP leads from MARKING i;", () -> {
            e.leaves(Scenes.BOUNDED, "next 0 0 = 1", "next 0 1 = 2", "next 1 1 = 0", "next 8 2 = 9", "next 7 0 = 8");
            e.run(Scenes.LONGEST, "next 0 0 = 1; next 7998 0 = 7999");
            e.run(largest(), "next 0 15 = 1; next 7998 0 = 7999; next 7998 15 = 7999; next 7999 15 = NONE");
            e.run(Scene.of("place 0; step 0"), "field 1 = 1; next 0 0 = 0");
        });
        e.of(30, "NONE: it does not GO there.", () -> {
            e.leaves(Scenes.BOUNDED, "next 2 1 = NONE", "next 9 0 = NONE", "next 9 2 = NONE");
            e.run(Scenes.LONGEST, "next 7999 0 = NONE");
            e.run(Scenes.KINDS, "next 3 3 = 0; next 3 1 = NONE; arc 1 0 0 0; arc 1 1 0 0; need 1 0 0; field 50 = 4",
                "next 0 1 = 0; next 3 1 = NONE");
        });
        e.of(30, "As for marking().", () -> {
            e.refuses(Scenes.BOUNDED, "BAD", "next 0 -1", "next 0 3", "next 0 MAX", "next -1 0", "next 10 0", "next MIN 0");
            e.refuses(Scenes.WIDEST, "BAD", "next 0 16", "next 16 0");
            e.refuses(Scenes.UNFOUND, "BAD", "next 0 -1", "next 0 3", "next 99 3");
            e.refuses(Scenes.UNFOUND, "NO", "next 0 0", "next -1 0", "next 99 2");
        });
    }

    private void way() {
        e.of(31, "THE WAY becomes the STEPS by which MARKING i came from number 0, each by FORMER and BY: how many.", () -> {
            e.run(Scenes.BOUNDED, "way 9 = 5; count 5 = 5; walk 0 = 0; walk 1 = 0; walk 2 = 2; walk 3 = 2; walk 4 = 2",
                "walk 5 = BAD; check = 5");
            e.run(Scenes.BOUNDED, "way 0 = 0; count 5 = 0; walk 0 = BAD; way 3 = 1; walk 0 = 2; walk 1 = BAD; way 5 = 2",
                "walk 0 = 0; walk 1 = 2");
            e.run(Scenes.LONGEST, "way 7999 = 7999; count 5 = 7999; lay 0 = 8000; way 0 = 0; lay 0 = 1");
            e.changes(Scenes.BOUNDED, "way 9 = 5", Look.Part.WAY);
            e.changes(Scenes.BOUNDED, "way 0 = 0", Look.Part.WAY);
        });
        e.of(31, "As for marking().", () -> {
            e.refuses(Scenes.BOUNDED, "BAD", "way -1", "way 10", "way MIN", "way MAX");
            e.refuses(Scenes.LONGEST, "BAD", "way 8000");
            e.refuses(Scenes.UNFOUND, "NO", "way 0", "way -1", "way 10");
        });
    }

    private void find() {
        e.of(32, "Which MARKING is THE ROW AS MARKS;", () -> {
            e.run(Scenes.BOUNDED, "row 3; set 0 2; set 1 1; find = 0; set 0 0; set 1 0; set 2 3; find = 9");
            e.run(Scenes.BOUNDED, "row 1; set 0 3; find = 2; row 16; set 0 3; set 15 8; set 3 -1; find = 2");
            e.run(DRAIN, "mark 0 2; field 3; row 0; find = 2; row 1; find = 2; set 0 1; find = 1");
            e.leaves(Scenes.BOUNDED.then("row 1; set 0 3"), "find = 2");
            e.run(Scenes.LONGEST, "row 1; set 0 1; find = 7998; set 0 7999; find = 0");
            e.run(Scenes.WIDEST, "row 16; set 15 1; find = 13; row 2; set 1 1; find = 15");
        });
        e.of(32, "NONE.", () -> {
            e.leaves(Scenes.BOUNDED, "find = NONE");
            e.run(Scenes.BOUNDED, "row 0; find = NONE; row 1; set 0 4; find = NONE; set 0 -1; find = NONE",
                "set 0 -1000000000; find = NONE");
            e.run(Scenes.BOUNDED, "row 3; set 0 2; set 1 1; set 2 1; find = NONE; set 0 1000000000; find = NONE");
            e.run(Scenes.LONGEST, "row 1; set 0 8000; find = NONE");
        });
        e.of(32, "NO: there is no FIELD.", () -> {
            e.refuses(Scenes.UNFOUND, "NO", "find");
            e.refuses(Scenes.COLOURED, "NO", "find");
            e.run(Scenes.BOUNDED, "field 9 = SPENT; row 0; find = NO");
        });
    }

    private void dead() {
        e.of(33, "The k-th DEAD MARKING by numbers, from 0 on;", () -> {
            e.leaves(Scenes.BOUNDED, "dead 0 = 9");
            Scene two = LINE.then("step 0; arc 1 0 1 0; arc 1 2 0 1; mark 0 1; field 9");
            e.run(two, "dead 0 = 1; dead 1 = 2; dead 2 = NONE");
            e.run(Scenes.LONGEST, "dead 0 = 7999; dead 1 = NONE");
            e.run(Scenes.EMPTY, "field 1; dead 0 = 0");
        });
        e.of(33, "NONE.", () -> {
            e.leaves(Scenes.BOUNDED, "dead 1 = NONE", "dead MAX = NONE");
            e.run(Scenes.WIDEST, "dead 0 = NONE");
        });
        e.of(33, "BAD: k is below 0;", () -> {
            e.refuses(Scenes.BOUNDED, "BAD", "dead -1", "dead MIN");
            e.refuses(Scenes.UNFOUND, "BAD", "dead -1", "dead MIN");
        });
        e.of(33, "NO: there is no FIELD.", () -> {
            e.refuses(Scenes.UNFOUND, "NO", "dead 0", "dead MAX");
            e.refuses(Scenes.COLOURED, "NO", "dead 0");
        });
    }

    private void stuck() {
        e.of(34, "The least MARKING at which a STEP is STUCK;", () -> {
            e.leaves(Scenes.BOUNDED, "stuck 0 = 9", "stuck 1 = 9", "stuck 2 = 9");
            e.run(LINE, "step 0; arc 1 2 1 0; mark 0 1; field 9 = 2; stuck 0 = 1; stuck 1 = 0");
            e.run(Scenes.LONGEST, "stuck 0 = 7999");
            e.run(largest(), "stuck 15 = 7999");
        });
        e.of(34, "NONE: it LIVES.", () -> {
            e.leaves(Scenes.WIDEST, "stuck 0 = NONE", "stuck 15 = NONE");
            e.run(LINE, "step 0; mark 0 1; field 9 = 2; stuck 1 = NONE; stuck 0 = 1; arc 1 1 1 0; arc 1 0 0 1; field 9 = 2",
                "stuck 0 = NONE; stuck 1 = NONE");
        });
        e.of(34, "BAD;", () -> {
            e.refuses(Scenes.BOUNDED, "BAD", "stuck -1", "stuck 3", "stuck MIN", "stuck MAX");
            e.refuses(Scenes.UNFOUND, "BAD", "stuck -1", "stuck 3");
            e.refuses(Scenes.WIDEST, "BAD", "stuck 16");
            e.refuses(Scenes.EMPTY, "BAD", "stuck 0");
        });
        e.of(34, "NO: there is no FIELD.", () -> {
            e.refuses(Scenes.UNFOUND, "NO", "stuck 0", "stuck 2");
            e.refuses(Scenes.COLOURED, "NO", "stuck 0");
        });
    }

    private void home() {
        e.of(35, "Whether MARKING i is HOME: 1, 0.", () -> {
            e.leaves(Scenes.BOUNDED, "home 0 = 0", "home 8 = 0", "home 9 = 1");
            e.run(Scenes.WIDEST, "home 0 = 1; home 15 = 1");
            e.run(Scenes.LONGEST, "home 7999 = 1; home 7998 = 0");
            e.run(largest(), "home 7999 = 1; home 0 = 0");
            e.run(Scene.of("3* place 0; 2* step 0", Scenes.ring(2), "mark 0 1; field 2; home 0 = 1; home 1 = 1",
                "arc 1 1 0 0"),
                "arc 1 2 1 0; field 2 = 2; home 0 = 0; home 1 = 1");
            e.run(Scene.of("3* place 0; 2* step 0", Scenes.ring(2), "mark 0 5; field 6; home 0 = 1; home 5 = 1",
                "arc 1 1 0 0"),
                "arc 1 2 1 0; field 6 = 6; home 3 = 0; home 4 = 0; home 5 = 1; stuck 1 = 0");
            e.run(Scenes.EMPTY, "field 1; home 0 = 1");
        });
        e.of(35, "As for marking().", () -> {
            e.refuses(Scenes.BOUNDED, "BAD", "home -1", "home 10", "home MIN", "home MAX");
            e.refuses(Scenes.LONGEST, "BAD", "home 8000");
            e.refuses(Scenes.UNFOUND, "NO", "home 0", "home -1", "home 10");
        });
    }

    private void works() {
        e.of(36, "Whether THE NET WORKS: 0;", () -> {
            e.run(LINE, "works 0 1 2 = 0; fault = NONE; works 0 1 8000 = 0; mark 0 2; field 3 = 3; works 0 1 2 = 0");
            e.run(Scene.of("place 0"), "works 0 0 1 = 0; fault = NONE");
            e.run(Scenes.WIDEST, "works 0 15 16 = 0; works 15 0 16 = 0; fault = NONE");
        });
        e.of(36, "else the least of (1), (2), (3) that is not so.", () -> {
            e.run(LINE, "works 1 0 9 = 1; works 0 0 9 = 1; works 0 2 9 = 1");
            e.run(tooSoon(), "works 0 1 9 = 2; arc 1 1 0 0; works 0 1 9 = 2");
            e.run(LINE, "step 0; arc 1 2 1 0; works 0 1 9 = 3");
            e.run(LINE, "step 0; arc 1 2 1 0; works 0 2 9 = 1");
            e.run(tooSoon(), "step 0; arc 2 2 2 0; works 0 1 9 = 2; works 0 2 9 = 1");
        });
        e.of(36, "THE FIELD is that one then.", () -> {
            e.run(Scenes.BOUNDED, "works 0 2 50 = 0; count 6 = 3; marking 0 0 = 1; marking 0 1 = 0; marking 0 2 = 0",
                "marking 2 2 = 1; many 0 = 2");
            e.run(Scenes.BOUNDED, "works 2 0 50 = 1; count 6 = 1; marking 0 2 = 1; marking 0 0 = 0; marking 1 0 = BAD");
            e.changes(Scenes.BOUNDED, "works 0 2 50 = 0", Look.Part.FIELD, Look.Part.FAULT);
            e.changes(Scenes.BOUNDED, "works 0 0 3 = 1", Look.Part.FIELD);
        });
        e.of(36, "BAD: PLACES b, e, most, which is as in field();", () -> {
            e.run(Scenes.BOUNDED, "works 2 2 1 = 3; works 0 2 8000 = 0");
            e.refuses(Scenes.BOUNDED, "BAD", "works -1 0 50", "works 3 0 50", "works 0 -1 50", "works 0 3 50", "works 0 2 0",
                "works 0 2 -1", "works 0 2 8001", "works MIN 0 50", "works 0 MAX 50", "works 0 0 MIN", "works 0 0 MAX");
            e.refuses(Scenes.WIDEST, "BAD", "works 16 0 50", "works 0 16 50");
            e.refuses(Scenes.COLOURED, "BAD", "works 3 0 50", "works 0 3 50", "works 0 0 0", "works 0 0 8001");
            e.refuses(Scenes.EMPTY, "BAD", "works 0 0 1");
        });
        e.of(36, "NO: a PLACE is COLOURED;", () -> {
            e.refuses(Scenes.COLOURED, "NO", "works 0 0 50", "works 1 2 50", "works 0 0 1");
            e.refuses(Scenes.BOUNDED.then("place 1"), "NO", "works 0 2 50");
            e.refuses(SPRING.then("place 1"), "NO", "works 0 0 1");
        });
        e.of(36, "SPENT, as in field().", () -> {
            e.run(Scenes.BOUNDED, "works 0 2 3 = 0; works 0 2 2 = SPENT", NO_FIELD);
            e.changes(Scenes.BOUNDED, "works 0 2 2 = SPENT", Look.Part.FIELD);
            e.changes(Scenes.BOUNDED, "works 0 2 1 = SPENT", Look.Part.FIELD);
            e.run(SPRING, "works 0 0 1 = SPENT; works 0 0 8000 = SPENT", NO_FIELD, "fault = NONE");
        });
    }

    /** 1 at place 0 becomes 1 at places 1 and 2, and step 1 then takes the one at place 2. */
    private static Scene tooSoon() {
        return LINE.then("arc 0 2 0 1; step 0; arc 1 2 1 0; arc 1 1 1 1");
    }

    private void fault() {
        e.of(37, "Of the latest works() that was not refused:", () -> {
            e.run(Scenes.BOUNDED, "fault = 2; works 0 9 50 = BAD; fault = 2; works 0 2 0 = BAD; fault = 2",
                "works 0 2 2 = SPENT; fault = 2");
            e.run(Scenes.BOUNDED, "place 1; works 0 2 50 = NO; fault = 2; arc 0 0 1 0; mark 0 1; fault = 2");
            e.run(Scenes.BOUNDED, "works 0 2 50 = 0; fault = NONE; works 0 0 50 = 1; fault = 2; field 50; fault = 2");
            e.leaves(Scenes.BOUNDED, "fault = 2");
        });
        e.of(37, "the least MARKING that leads not there (1),", () -> {
            e.run(LINE, "works 0 0 9 = 1; fault = 1; works 0 2 9 = 1; fault = 0; works 1 0 9 = 1; fault = 0");
            e.run(LINE.then("2* step 0; arc 1 0 1 0; arc 1 2 0 1; arc 2 0 1 0"),
                "works 0 1 9 = 1; fault = 2; works 0 2 9 = 1; fault = 1");
        });
        e.of(37, "that has something at e (2),", () -> {
            e.run(tooSoon(), "works 0 1 9 = 2; fault = 1");
            e.run(tooSoon().then("place 0; step 0; arc 0 1 0 0; arc 0 3 0 1; arc 2 3 1 0; arc 2 1 0 1"),
                "works 0 1 9 = 2; fault = 2");
        });
        e.of(37, "the least STEP that goes nowhere (3);", () -> {
            e.run(LINE, "step 0; arc 1 2 1 0; works 0 1 9 = 3; fault = 1; step 0; arc 2 2 1 0; works 0 1 9 = 3; fault = 1");
            e.run(Scenes.BOUNDED, "works 2 2 9 = 3; fault = 0");
        });
        e.of(37, "NONE: it WORKS, or there was none.", () -> {
            e.run(LINE, "fault = NONE; works 0 0 9 = 1; fault = 1; works 0 1 9 = 0; fault = NONE");
            e.run(LINE, "works 0 1 0 = BAD; fault = NONE; works 0 1 1 = SPENT; fault = NONE");
            e.leaves(Scenes.EMPTY, "fault = NONE");
        });
    }
}
