/** The terms, sentence by sentence, each by a promise in which it shows. */
final class TermsEdges {
    private static final Look.Part[] ALL_FOUND = {Look.Part.PAST, Look.Part.FIELD, Look.Part.TREE, Look.Part.WEIGHTS,
        Look.Part.ROUNDS, Look.Part.SETS};

    private final Edges e;

    TermsEdges(Edges e) {
        this.e = e;
    }

    void all() {
        refusals();
        placesAndThings();
        steps();
        mayAndGoes();
        going();
        changes();
        inHand();
        theField();
        theTree();
        weights();
        sets();
        free();
        works();
    }

    private void refusals() {
        e.term(0, 2, "All numbers are whole. What there is is numbered from 0 on, as it comes.", () -> {
            e.run(Scenes.EMPTY, "place 0 = 0; place 0 = 1; step 0 = 0; step 0 = 1; place 1 = 2; thing 2 3 = 1",
                "kind 2 0 = 3; kind 2 1 = BAD");
            e.run(Scenes.BOUNDED, "marking 0 0 = 2; node 0 0 = 2; weight 0 0 = 1; round 0 0 = 1; bits 0 = 3; get 0 = 4",
                "walk 0 = 2");
        });
        e.term(0, 17, "A call that is refused answers BAD (a number is not as told, or there is no such thing), NO (not"
            + " now), FULL (no room) or"
            + " SPENT (more work than was told), of several the one that stands first here,", () -> {
                e.run(Scenes.KINDS, "need 0 0 10 = BAD; need 0 0 1 = NO; close 1 0 2 = BAD; close 1 0 1 = NO",
                    "want 0 0 4 0 = BAD; want 0 0 0 0 = NO");
                e.run(Scenes.FULL_OF_THINGS, "mark 1 -1 = BAD; mark 1 0 = NO; thing 1 4 = BAD; thing 1 0 = FULL",
                    "thing 0 4 = BAD; thing 0 0 = NO; field 0 = BAD; field 1 = NO");
                e.run(Scenes.WIDEST, "place 2 = BAD; place 0 = FULL; step 4 = BAD; step 0 = FULL");
                e.run(Scenes.LONGEST, "lay 1 = BAD; lay 0 = FULL");
                e.run(GoingEdges.FILLING, "raise 1 1000000000; go 1 = BAD; go 0 = FULL; mark 0 0; go 0 = NO");
                e.run(Scene.of("place 0; step 0; arc 0 0 0 1"),
                    "field 8001 = BAD; field 8000 = SPENT; works 0 1 8 = BAD; works 0 0 8 = SPENT; tree 0 = BAD",
                    "tree 1 = SPENT",
                    "place 1; field 8000 = NO; works 0 0 8 = NO; tree 1 = NO; step 2; tree 1 = NO; tree 0 = BAD");
            });
        e.term(0, 28, "and changes nothing but as told.", () -> {
            e.changes(Scenes.BOUNDED, "field 9 = SPENT", Look.Part.FIELD);
            e.changes(Scenes.BOUNDED, "works 0 2 2 = SPENT", Look.Part.FIELD);
            e.changes(Scenes.BOUNDED, "tree 18 = SPENT", Look.Part.TREE);
            e.refuses(Scenes.BOUNDED, "BAD", "field 0", "works 0 2 0", "tree 0", "sets 0 0");
            e.refuses(Scenes.COLOURED, "NO", "field 1", "works 0 0 1", "tree 1", "check");
        });
        e.term(0, 33, "NONE: there is none.", () ->
            e.run(Scenes.BOUNDED, "dead 0 = 9; dead 1 = -2000000005; pump = -2000000005"));
        e.term(0, 42, "ENDLESS: without end.", () ->
            e.run(Scenes.GROWING, "bound 1 = 1; bound 2 = -2000000006; node 3 2 = -2000000006"));
    }

    private void placesAndThings() {
        e.term(1, 2, "THE NET has PLACES (16) and STEPS (16).", () -> {
            e.run(Scenes.EMPTY, "15* place 0; 15* step 0; place 0 = 15; step 0 = 15; place 0 = FULL; step 0 = FULL",
                "arc 15 15 1 1 = 0; arc 16 15 1 1 = BAD; arc 15 16 1 1 = BAD");
            e.run(Scenes.EMPTY, "16* place 1; step 0 = 0; place 0 = FULL; step 1 = 1; count 0 = 16; count 1 = 2");
        });
        e.term(1, 11, "A PLACE is PLAIN, and has MARKS (how many), or COLOURED, and has a row of THINGS, 20 at most.", () -> {
            e.run(Scene.of("place 0; place 1"), "mark 0 21 = 0; many 0 = 21; thing 0 0 = NO; 20* thing 1 0",
                "thing 1 0 = FULL; many 1 = 20; mark 1 0 = NO");
            e.run(Scene.of("16* place 1; 20* thing 15 3; 20* thing 0 1"),
                "thing 15 0 = FULL; kind 15 19 = 3; kind 0 19 = 1; many 14 = 0");
        });
        e.term(1, 11, "A THING has a KIND: 0 THING, 1 CARD, 2 SEAL, 3 KEY.", () ->
            e.run(Scene.of("place 1"), "thing 0 -1 = BAD; thing 0 0 = 1; thing 0 1 = 2; thing 0 2 = 3; thing 0 3 = 4",
                "thing 0 4 = BAD; kind 0 0 = 0; kind 0 1 = 1; kind 0 2 = 2; kind 0 3 = 3"));
        e.term(1, 16, "IT IS of KIND 0 always, of KIND 1 if it is a CARD or a SEAL, of 2 if it is a SEAL, of 3 if it is a"
            + " KEY.", () -> {
            int[][] fits = {{1, 1, 1, 1}, {0, 1, 1, 0}, {0, 0, 1, 0}, {0, 0, 0, 1}};
            for (int want = 0; want < 4; want++) {
                for (int kind = 0; kind < 4; kind++) {
                    Scene one = Scene.of("place 1; step 0; arc 0 0 1 0; want 0 0 " + want + " 0; thing 0 " + kind);
                    e.run(one, "may 0 = " + fits[want][kind]);
                }
            }
        });
        e.term(1, 13, "HOW MANY a PLACE has are its MARKS, or THINGS.", () ->
            e.run(Scene.of("place 0; place 1"), "many 0 = 0; many 1 = 0; mark 0 3; 2* thing 1 3; many 0 = 3; many 1 = 2",
                "share 0 = 600; share 1 = 400"));
    }

    private void steps() {
        e.term(1, 9, "A STEP has a KIND: 0 PLAIN, 1 GUARDED, 2 STOPPED, 3 URGENT; each one is of its own KIND and of those"
            + " below it.", () -> {
            e.run(Scenes.KINDS, "isOf 1 1 = 1; isOf 1 2 = 0; isOf 2 2 = 1; isOf 2 3 = 0; isOf 3 3 = 1; isOf 3 0 = 1",
                "isOf 0 1 = 0");
            e.run(Scenes.KINDS, "need 2 0 1 = 0; need 3 0 1 = 0; close 3 0 1 = 0; close 1 0 1 = NO; need 0 0 1 = NO",
                "step 4 = BAD");
        });
        e.term(1, 4, "For each PLACE it TAKES 0 .. 9 and PUTS 0 .. 9;", () -> {
            e.run(Scene.of("place 0; step 0"), "arc 0 0 0 0 = 0; arc 0 0 9 9 = 0; arc 0 0 10 9 = BAD; arc 0 0 9 10 = BAD",
                "arc 0 0 -1 9 = BAD; arc 0 0 9 -1 = BAD; asks 0 0 0 = 9; asks 0 0 1 = 9");
            e.refuses(Scenes.COLOURED, "BAD", "arc 0 1 10 0", "arc 0 1 0 10", "arc 0 1 -1 0", "arc 0 1 0 -1");
        });
        e.term(1, 5, "if it is of KIND 1 it has a NEED, 0 .. 9;", () ->
            e.run(Scene.of("place 0; step 1"), "need 0 0 0 = 0; need 0 0 9 = 0; need 0 0 10 = BAD; need 0 0 -1 = BAD",
                "asks 0 0 2 = 9"));
        e.term(1, 6, "if it is of KIND 2, the PLACE may be CLOSED to it;", () ->
            e.run(Scene.of("place 0; step 2"), "close 0 0 0 = 0; close 0 0 1 = 0; close 0 0 2 = BAD; close 0 0 -1 = BAD",
                "asks 0 0 3 = 1"));
        e.term(1, 7, "for each COLOURED PLACE it has a WANT and a GIFT, KINDS of THINGS.", () ->
            e.run(Scene.of("2* place 1; step 0"), "want 0 0 0 3 = 0; want 0 1 3 0 = 0; want 0 0 4 0 = BAD",
                "want 0 0 0 4 = BAD; asks 0 0 4 = 0; asks 0 0 5 = 3; asks 0 1 4 = 3; asks 0 1 5 = 0"));
        e.term(1, 8, "(All 0, nothing CLOSED at first.)", () -> {
            for (int kind = 0; kind < 4; kind++) {
                e.run(Scene.of("place 0; place 1; step " + kind),
                    "asks 0 0 0 = 0; asks 0 0 1 = 0; asks 0 0 2 = 0; asks 0 0 3 = 0; asks 0 0 4 = 0; asks 0 0 5 = 0",
                    "asks 0 1 0 = 0; asks 0 1 1 = 0; asks 0 1 2 = 0; asks 0 1 3 = 0; asks 0 1 4 = 0; asks 0 1 5 = 0",
                    "may 0 = 1");
            }
            e.run(Scenes.BOUNDED, "place 0; asks 0 3 0 = 0; asks 1 3 2 = 0; step 2; asks 3 0 0 = 0; asks 3 3 3 = 0",
                "asks 3 1 2 = 0");
        });
    }

    private void mayAndGoes() {
        e.term(1, 16, "It MAY go if for each PLACE: HOW MANY there are is not below what it TAKES,", () -> {
            e.run(Scene.of("place 0; step 0; arc 0 0 9 0"),
                "mark 0 8; may 0 = 0; mark 0 9; may 0 = 1; mark 0 10; may 0 = 1; mark 0 0; may 0 = 0");
            e.run(Scenes.WIDEST, "mark 15 1; may 15 = 1; arc 15 14 1 0; may 15 = 0; mark 14 1; may 15 = 1");
        });
        e.term(1, 16, "and not below its NEED;", () -> {
            e.run(Scene.of("place 0; step 1; need 0 0 9"),
                "mark 0 8; may 0 = 0; mark 0 9; may 0 = 1; go 0; many 0 = 9; need 0 0 0; mark 0 0; may 0 = 1");
            e.run(Scene.of("2* place 0; step 1; need 0 1 1"), "may 0 = 0; mark 0 1; may 0 = 0; mark 1 1; may 0 = 1");
            e.run(Scene.of("place 1; step 1; need 0 0 2; want 0 0 3 0; thing 0 0"), "may 0 = 0; thing 0 1; may 0 = 1");
        });
        e.term(1, 16, "there are none, if the PLACE is CLOSED to it;", () -> {
            e.run(Scene.of("2* place 0; step 2; close 0 1 1"), "may 0 = 1; mark 0 1; may 0 = 1; mark 1 1; may 0 = 0");
            e.run(Scene.of("place 0; step 2; close 0 0 1"), "may 0 = 1; mark 0 1; may 0 = 0; close 0 0 0; may 0 = 1");
            e.run(Scene.of("place 1; step 3; close 0 0 1"),
                "may 0 = 1; thing 0 0; may 0 = 0; sweep 0; may 0 = 1; arc 0 0 1 0; may 0 = 0; thing 0 0; may 0 = 0");
        });
        e.term(1, 16, "and, if it is COLOURED, at least as many of its THINGS as it TAKES are of its WANT.", () -> {
            e.run(Scene.of("place 1; step 0; arc 0 0 2 0; want 0 0 1 0; 5* thing 0 0; thing 0 3; thing 0 1"),
                "may 0 = 0; thing 0 2; may 0 = 1; thing 0 1; may 0 = 1");
            e.run(Scene.of("place 1; step 0; arc 0 0 9 0; want 0 0 3 0; 8* thing 0 3; 11* thing 0 2"),
                "may 0 = 0; thing 0 3; may 0 = 1");
        });
        e.term(1, 16, "It GOES if it MAY, and is URGENT, or no URGENT STEP MAY.", () -> {
            e.run(GoingEdges.URGED, "may 0 = 1; may 1 = 2; go 1 = NO; go 0 = 0; may 1 = 0; mark 0 1; arc 0 0 2 0",
                "may 0 = 0; may 1 = 1; go 1 = 0");
            e.run(GoingEdges.URGED, "step 3; may 3 = 1; arc 0 1 1 0; may 0 = 0; may 3 = 1; may 1 = 2");
        });
    }

    private void going() {
        e.term(1, 17, "When it goes, each PLACE has as many less as it TAKES, and then as many more as it PUTS:", () -> {
            e.run(Scene.of("3* place 0; step 0; arc 0 0 9 0; arc 0 1 9 9; arc 0 2 0 9; mark 0 9; mark 1 9"),
                "go 0 = 0; many 0 = 0; many 1 = 9; many 2 = 9; go 0 = NO; many 2 = 9");
            e.run(Scene.of("place 0; step 0; arc 0 0 1 2; raise 0 999999999"),
                "go 0 = 0; many 0 = 1000000000; go 0 = FULL; arc 0 0 2 2; go 0 = 0; many 0 = 1000000000");
        });
        e.term(1, 17, "of a COLOURED one those THINGS go that are the first of its WANT, the others stay in their order,"
            + " then THINGS of its GIFT"
            + " come behind them.", () -> {
                e.run(Scene.of("place 1; step 0; arc 0 0 2 2; want 0 0 1 3; thing 0 0; thing 0 2; thing 0 3; thing 0 1",
                    "thing 0 2"),
                    "go 0 = 0; many 0 = 5; kind 0 0 = 0; kind 0 1 = 3; kind 0 2 = 2; kind 0 3 = 3; kind 0 4 = 3; go 0 = NO");
                e.run(Scene.of("place 1; step 0; arc 0 0 9 9; want 0 0 0 2; 20* thing 0 1"),
                    "go 0 = 0; many 0 = 20; kind 0 10 = 1; kind 0 11 = 2; kind 0 19 = 2; go 0; kind 0 1 = 1; kind 0 2 = 2",
                    "go 0; kind 0 0 = 2");
                e.run(Scene.of("place 1; step 0; arc 0 0 1 1; want 0 0 2 2; thing 0 2; thing 0 0"),
                    "go 0 = 0; kind 0 0 = 0; kind 0 1 = 2; go 0 = 0; kind 0 0 = 0; kind 0 1 = 2");
            });
        e.term(1, 17, "It is FULL, and nothing goes, if a PLACE would have more than 1000000000 MARKS behind that,", () -> {
            Scene nearly = Scene.of("3* place 0; step 0; arc 0 0 1 0; arc 0 1 0 1; arc 0 2 0 9; mark 0 2; go 0");
            e.run(nearly.then("raise 1 999999999; raise 2 999999991"),
                "go 0 = 0; many 1 = 1000000000; many 2 = 1000000000; many 0 = 0");
            e.refuses(nearly.then("raise 1 1000000000"), "FULL", "go 0");
            e.refuses(nearly.then("raise 2 999999992"), "FULL", "go 0");
            e.refuses(nearly.then("raise 0 1000000000; raise 1 1000000000"), "FULL", "go 0");
            e.run(Scene.of("place 0; step 0; arc 0 0 9 9; raise 0 1000000000"),
                "go 0 = 0; many 0 = 1000000000; arc 0 0 8 9; go 0 = FULL");
        });
        e.term(1, 17, "or more than 20 THINGS.", () -> {
            Scene eleven = Scene.of("place 1; step 0; arc 0 0 0 9; 11* thing 0 1; step 0; go 1");
            e.run(eleven, "go 0 = 0; many 0 = 20; go 0 = FULL; many 0 = 20; count 3 = 2");
            e.refuses(eleven.then("thing 0 1; go 1"), "FULL", "go 0");
            e.run(Scene.of("place 1; step 0; arc 0 0 1 1; 20* thing 0 1"),
                "go 0 = 0; many 0 = 20; arc 0 0 1 2; go 0 = FULL; arc 0 0 2 2; go 0 = 0");
            e.refuses(Scene.of("place 0; place 1; step 0; arc 0 0 1 0; arc 0 1 0 1; mark 0 1; 20* thing 1 2; step 0",
                "go 1"), "FULL", "go 0");
        });
    }

    private void changes() {
        e.term(1, 2, "THE NET CHANGES with a PLACE, a STEP, or what one TAKES, PUTS, NEEDS, is CLOSED to, WANTS or GIVES", () -> {
            String gone = "count 2 = 0; count 8 = 0; count 9 = 0; count 10 = 0";
            String[] all = {"place 0", "place 1", "step 0", "step 3", "arc 0 1 2 0", "arc 0 1 1 1", "need 1 1 3",
                "close 2 0 0",
                "want 0 1 2 2", "want 0 1 1 3"};
            for (String change : all) {
                e.run(Scenes.COLOURED, "count 2 = 4; count 8 = 1; count 9 = 2; count 10 = 2", change, gone);
            }
            e.refuses(Scenes.COLOURED, "NO", "need 0 1 3", "close 1 0 0", "want 0 0 2 2");
        });
        e.term(1, 4, "(also if it is told as it was):", () -> {
            e.changes(Scenes.BOUNDED, "arc 0 0 1 0 = 0", ALL_FOUND);
            e.run(Scenes.BOUNDED, "arc 0 2 0 0; count 2 = 0; count 6 = 0; count 7 = 0; count 8 = 0; count 9 = 0",
                "count 10 = 0");
            e.run(Scenes.BOUNDED, "need 1 1 1; count 2 = 0; count 6 = 0; count 7 = 0; count 8 = 0; count 9 = 0",
                "count 10 = 0");
            e.run(Scenes.KINDS, "close 2 1 1; count 2 = 0; count 6 = 0; count 8 = 0; count 9 = 0; count 10 = 0");
            e.run(Scenes.COLOURED, "want 0 1 1 2; count 2 = 0; count 8 = 0; count 9 = 0; count 10 = 0");
        });
        e.term(1, 29, "then the FIELD, the TREE, the WEIGHTS, the ROUNDS and the SETS told below are gone.", () -> {
            String gone = "count 6 = 0; count 7 = 0; count 8 = 0; count 9 = 0; count 10 = 0; marking 0 0 = NO;"
                + "next 0 0 = NO; way 0 = NO; find = NO; dead 0 = NO; stuck 0 = NO; home 0 = NO; node 0 0 = NO; above 0 0 = NO;"
                + "cover = NO; bound 0 = NO; pump = NO; weight 0 0 = BAD; round 0 0 = BAD; bits 0 = BAD;"
                + "count 3 = 4; count 4 = 5; count 5 = 3; fault = 2";
            e.run(Scenes.BOUNDED, "arc 0 0 1 0", gone);
            e.run(Scenes.BOUNDED, "place 0", gone);
            e.run(Scenes.BOUNDED, "step 0", gone);
            e.changes(Scenes.BOUNDED, "mark 0 3 = 2", Look.Part.MARKS, Look.Part.PAST, Look.Part.DRAINS);
        });
        e.term(1, 19, "THE PAST are the latest 256 goings that were not undone;", () -> {
            e.run(GoingEdges.CAROUSEL, "run 255; count 2 = 255; run 1; count 2 = 256; 256* back; count 2 = 0; many 0 = 1",
                "kind 4 0 = 0; kind 4 4 = 0; back = NO");
            e.run(GoingEdges.CAROUSEL, "run 257; count 2 = 256; 255* back; back = 1; count 2 = 0; many 1 = 1; back = NO");
            e.run(GoingEdges.CAROUSEL, "run 1000; run 3; 10* back; go 1; go 2; count 2 = 248; back = 2; back = 1; back = 0",
                "245* back; back = NO; many 3 = 1; kind 4 4 = 2");
            e.run(Scenes.BOUNDED, "go 0; go 2; back = 2; go 1; back = 1; back = 0; back = 1; back = 0; back = 0; back = NO",
                "count 3 = 7");
        });
        e.term(1, 19, "it is empty again when THE NET CHANGES,", () -> {
            for (String change : new String[] {"place 0", "step 0", "arc 0 0 1 0", "need 1 1 1"}) {
                e.run(Scenes.BOUNDED, "count 2 = 3", change,
                    "count 2 = 0; back = NO; many 0 = 2; many 1 = 1; go 0; count 2 = 1; back = 0; back = NO");
            }
            e.run(GoingEdges.CAROUSEL, "run 300; arc 0 0 1 0; count 2 = 0; back = NO; run 2; count 2 = 2; back = 1",
                "back = 0; back = NO");
            e.refuses(Scenes.BOUNDED, "BAD", "arc 0 0 10 0", "place 2", "step 4");
        });
        e.term(1, 19, "and when MARKS or THINGS are told from without.", () -> {
            for (String change : new String[] {"mark 0 0", "mark 0 5", "thing 1 0", "sweep 1", "sweep 2"}) {
                e.run(Scenes.COLOURED, "count 2 = 4", change, "count 2 = 0; back = NO; count 3 = 4; count 8 = 1");
            }
            e.refuses(Scenes.COLOURED, "NO", "mark 1 0", "thing 0 0", "sweep 0");
            e.refuses(Scenes.FULL_OF_THINGS, "FULL", "thing 1 0");
        });
    }

    private void inHand() {
        e.term(2, 20, "IN HAND are THE ROW (0 .. 16 numbers,", () ->
            e.run(Scenes.EMPTY, "row 0 = 0; row 16 = 16; get 15 = 0; get 16 = BAD; row 17 = BAD; row -1 = BAD",
                "count 4 = 16"));
        e.term(2, 21, "each -1000000000 .. 1000000000;", () ->
            e.run(Scene.of("row 1"), "set 0 1000000000 = 0; set 0 1000000001 = BAD; set 0 -1000000000 = 1000000000",
                "set 0 -1000000001 = BAD; get 0 = -1000000000"));
        e.term(2, 22, "none at first), and", () ->
            e.run(Scenes.EMPTY, "count 4 = 0; get 0 = BAD; set 0 0 = BAD; copy 0 0 0 = 0; copy 0 0 1 = BAD"));
        e.term(2, 24, "THE WAY (STEPS one behind the other, 8000 at most; none at first).", () -> {
            e.run(Scene.of("place 0; step 0; arc 0 0 1 0; mark 0 7999"),
                "count 5 = 0; walk 0 = BAD; field 8000; way 7999 = 7999; lay 0 = 8000; lay 0 = FULL; count 5 = 8000",
                "walk 7999 = 0");
            e.run(Scene.of("2* step 0"), "lay 1 = 1; lay 0 = 2; walk 0 = 1; walk 1 = 0");
        });
        e.term(2, 32, "THE ROW AS MARKS: its number i for PLACE i; 0, if it has none such.", () -> {
            e.run(Scenes.BOUNDED, "row 0; find = NONE; cover = 0; row 1; set 0 3; find = 2; cover = 2; row 2; set 1 3",
                "find = 4; cover = 4; row 4; set 1 3; set 3 1; find = 4; cover = 4");
            e.run(Scenes.EMPTY, "field 1; tree 1; find = 0; cover = 0; row 1; set 0 5; find = 0; cover = 0");
        });
    }

    private void theField() {
        e.term(3, 28, "THE FIELD, of a NET without COLOURED PLACES, are all MARKINGS that can come from one.", () -> {
            e.run(Scenes.EMPTY, "place 0; field 1 = 1; place 1; field 1 = NO; find = NO");
            e.run(Scene.of("2* place 0; step 0; arc 0 0 1 0; arc 0 1 0 1; mark 0 7"),
                "field 7 = SPENT; field 8 = 8; go 0; field 7 = 7; mark 0 0; field 1 = 1");
        });
        e.term(3, 30, "Number 0 is that one; then for each MARKING by its number, for each STEP by its number that GOES"
            + " there: what comes of it,"
            + " if it is not there yet, has the next number, and this one and that STEP are its FORMER and its BY.", () -> {
                e.run(Scenes.BOUNDED, "next 0 0 = 1; next 0 1 = 2; next 0 2 = 3; next 1 0 = 4; next 1 1 = 0; next 1 2 = 5",
                    "next 2 0 = 0; next 3 0 = 5; next 4 1 = 1; next 4 2 = 6",
                    "next 5 2 = 7; next 6 2 = 8; next 7 0 = 8; next 8 1 = 7; next 8 2 = 9; marking 5 0 = 1",
                    "marking 5 1 = 1; marking 5 2 = 1",
                    "way 5 = 2; walk 0 = 0; walk 1 = 2; way 8 = 4; walk 0 = 0; walk 1 = 0; walk 2 = 2; walk 3 = 2");
                e.run(Scene.of("place 0; 2* step 0; arc 0 0 1 0; arc 1 0 1 0; mark 0 1; field 2 = 2"),
                    "next 0 0 = 1; next 0 1 = 1; way 1 = 1; walk 0 = 0");
            });
        e.term(3, 28, "(In a FIELD no number of MARKS is too great.)", () -> {
            Scene great = GoingEdges.FILLING.then("raise 1 1000000000");
            e.run(great, "go 0 = FULL; field 5 = SPENT; field 6 = 6; marking 0 1 = 1000000000; marking 1 1 = 1000000009",
                "marking 5 1 = 1000000045; next 0 0 = 1; dead 0 = 5; home 5 = 1");
            e.leaves(great.then("field 6; row 2; set 0 5; set 1 1000000000"), "find = 0");
        });
        e.term(3, 33, "A MARKING is DEAD if no STEP GOES there.", () -> {
            e.run(Scene.of("place 0; field 1"), "dead 0 = 0; dead 1 = NONE; step 0; field 1; dead 0 = NONE");
            e.run(Scene.of("place 0; step 0; arc 0 0 9 0; mark 0 9; field 2 = 2"),
                "dead 0 = 1; mark 0 8; field 1 = 1; dead 0 = 0");
        });
        e.term(3, 35, "A MARKING LEADS to those that can come from it, itself too.", () -> {
            e.run(Scene.of("place 0; field 1"), "home 0 = 1; works 0 0 1 = 0");
            e.run(Scenes.BOUNDED, "home 9 = 1; home 0 = 0; home 5 = 0");
        });
        e.term(3, 34, "A STEP is STUCK at one that leads to none at which it GOES; it LIVES if it is STUCK nowhere.", () -> {
            e.run(Scene.of("place 0; 2* step 0; arc 0 0 1 0; arc 1 0 2 0; mark 0 3; field 4 = 4"),
                "stuck 0 = 3; stuck 1 = 2; arc 0 0 1 1; arc 1 0 2 2; field 1 = 1; stuck 0 = NONE; stuck 1 = NONE");
            e.run(Scene.of("2* place 0; step 3; step 0; arc 0 0 1 1; arc 1 0 1 1; mark 0 1; field 1 = 1"),
                "stuck 0 = NONE; stuck 1 = 0");
        });
        e.term(3, 35, "A MARKING is HOME if all lead to it.", () -> {
            e.run(Scene.of("2* place 0; step 0; arc 0 0 1 0; arc 0 1 0 1; mark 0 1; field 2"),
                "home 0 = 0; home 1 = 1; step 0; arc 1 1 1 0; arc 1 0 0 1; field 2; home 0 = 1; home 1 = 1");
            e.run(Scene.of("3* place 0; 2* step 0; arc 0 0 1 0; arc 0 1 0 1; arc 1 0 1 0; arc 1 2 0 1; mark 0 1; field 3"),
                "home 0 = 0; home 1 = 0; home 2 = 0");
        });
    }

    private void theTree() {
        e.term(4, 38, "THE TREE, of a NET whose STEPS are PLAIN or GUARDED, without COLOURED PLACES,", () ->
            e.run(Scenes.EMPTY, "step 0; tree 2 = 2; step 1; tree 3 = 3; place 0; tree 3 = 3; place 1; tree 3 = NO",
                "cover = NO")
        );
        e.term(4, 39, "has NODES, each with a MARKING, in which a PLACE may be ENDLESS (that is more than any number, and"
            + " stays so, whatever is"
            + " taken or put).", () -> {
                e.run(Scene.of("place 0; step 0; 2* step 1; arc 0 0 0 1; arc 1 0 9 0; arc 2 0 0 9; need 1 0 9; need 2 0 9",
                    "tree 5 = 5"),
                    "node 1 0 = ENDLESS; node 2 0 = ENDLESS; node 3 0 = ENDLESS; node 4 0 = ENDLESS; above 3 1 = 1",
                    "above 2 2 = 1; row 1; set 0 1000000000; cover = 1; bound 0 = ENDLESS");
                e.run(Scenes.GROWING, "node 2 2 = 0; node 3 2 = ENDLESS; node 4 2 = ENDLESS; node 5 2 = ENDLESS");
            });
        e.term(4, 39, "NODE 0 has what there is now.", () ->
            e.run(Scene.of("2* place 0; mark 0 1000000"),
                "tree 1 = 1; node 0 0 = 1000000; node 0 1 = 0; mark 1 3; node 0 1 = 0; tree 1; node 0 1 = 3"));
        e.term(4, 40, "Then for each NODE by its number that is no LEAF, for each STEP by its number that MAY go there,"
            + " there is one NODE more, ABOVE"
            + " which it stands: its MARKING is what comes of it;", () -> {
                e.run(Scenes.BOUNDED, "above 1 1 = 0; above 2 1 = 1; above 3 1 = 2; above 4 0 = 1; above 5 0 = 1",
                    "above 6 0 = 1; above 7 0 = 2; above 8 0 = 3; above 9 0 = 4; above 10 0 = 4; above 11 0 = 6",
                    "above 13 0 = 6");
                e.run(Scene.of("place 0; 2* step 0; arc 0 0 1 0; arc 1 0 2 0; mark 0 2; tree 4 = 4"),
                    "node 1 0 = 1; node 2 0 = 0; node 3 0 = 0; above 2 2 = 0; above 3 0 = 1; above 3 2 = 1");
            });
        e.term(4, 39, "then, for the NODE above it, the one above that, and so on up to NODE 0: if that one's MARKING is"
            + " nowhere more than this one's,"
            + " each PLACE at which it is less becomes ENDLESS", () -> {
                // one more at place 1 for one less at place 0 is no growth; one more for as many is, also by NODE 0 alone
                e.run(Scene.of("2* place 0; step 0; arc 0 0 1 0; arc 0 1 0 9; mark 0 2; tree 3 = 3"),
                    "node 1 1 = 9; node 2 1 = 18; bound 1 = 18");
                e.run(Scene.of("2* place 0; step 0; arc 0 0 1 1; arc 0 1 0 1; mark 0 1; tree 3 = 3"),
                    "node 1 0 = 1; node 1 1 = ENDLESS; above 2 2 = 1");
                e.run(Scene.of("3* place 0; 2* step 0; arc 0 0 1 0; arc 0 1 0 1; arc 1 1 1 0; arc 1 0 0 1; arc 1 2 0 1",
                    "mark 0 1; tree 5 = 5"), "node 1 2 = 0; node 2 0 = 1; node 2 2 = ENDLESS");
                // (2 0), (1 1), (0 2), then (3 0), which is more than the one farthest above it
                e.run(Scene.of("2* place 0; 2* step 0; arc 0 0 1 0; arc 0 1 0 1; arc 1 1 2 0; arc 1 0 0 3; mark 0 2",
                    "tree 99"),
                    "node 2 1 = 2; node 3 0 = ENDLESS; node 3 1 = 0; pump = 0; count 5 = 3");
            });
        e.term(4, 39, "(and with that the next one is compared).", () ->
            e.run(Scene.of("2* place 0; 2* step 0; arc 0 1 5 0; arc 0 0 0 1; arc 1 0 1 1; arc 1 1 0 1; mark 1 5",
                "tree 5 = 5"), "node 1 0 = 1; node 1 1 = 0; node 2 0 = ENDLESS; node 2 1 = ENDLESS"));
        e.term(4, 40, "A NODE is a LEAF if one with a lesser number has the same MARKING.", () -> {
            e.run(Scene.of("place 0; 2* step 0; tree 3 = 3"), "above 0 2 = 0; above 1 2 = 1; above 2 2 = 1");
            e.run(Scene.of("place 0; 2* step 0; arc 0 0 1 0; arc 1 0 1 0; mark 0 1; tree 3 = 3"),
                "above 1 2 = 0; above 2 2 = 1; node 2 0 = 0");
        });
    }

    private void weights() {
        e.term(5, 44, "THE CHANGE of a STEP at a PLACE is what it PUTS less what it TAKES.", () ->
            e.run(Scene.of("2* place 0; step 0; arc 0 0 9 9; arc 0 1 0 1"),
                "weights = 1; weight 0 0 = 1; weight 0 1 = 0; arc 0 0 9 0; weights = 1; weight 0 0 = 1; weight 0 1 = 9",
                "arc 0 0 0 9; weights = 1; weight 0 0 = 1; weight 0 1 = -9"));
        e.term(5, 44, "WEIGHTS come of rows, one for each PLACE p: LEFT numbers, for each STEP its CHANGE at p, and RIGHT"
            + " ones, one for each PLACE: 1 at p,"
            + " else 0.", () -> {
                e.run(Scene.of("16* place 0"), "weights = 16; weight 0 0 = 1; weight 0 1 = 0; weight 7 7 = 1",
                    "weight 7 8 = 0; weight 15 15 = 1; weight 15 0 = 0");
                e.run(Scene.of("16* step 0"), "weights = 0; rounds = 16");
            });
        e.term(5, 44, "For each STEP t by its number: the first row, in their order, whose LEFT number at t is not 0, is"
            + " taken out, if there is one;", () -> {
            e.run(Scene.of("4* place 0; step 0; arc 0 1 1 0; arc 0 2 0 2; arc 0 3 0 4"),
                "weights = 3; weight 0 0 = 1; weight 1 1 = 2; weight 1 2 = 1; weight 1 3 = 0; weight 2 1 = 4",
                "weight 2 2 = 0; weight 2 3 = 1");
            e.run(Scene.of("2* place 0; 3* step 0; arc 2 0 0 1"), "weights = 1; weight 0 0 = 0; weight 0 1 = 1");
            e.run(Scene.of("2* place 0; step 0"), "weights = 2; weight 0 0 = 1; weight 1 1 = 1; rounds = 1; round 0 0 = 1");
            e.run(Scene.of("3* place 0; 2* step 0; arc 0 1 0 1; arc 1 0 0 1; arc 1 1 0 1; arc 1 2 0 1"),
                "weights = 1; weight 0 0 = 1; weight 0 1 = 0; weight 0 2 = -1");
        });
        e.term(5, 44, "a being its number there, each other row whose number there, b, is not 0, becomes: a times it, less"
            + " b times the one taken out, number by"
            + " number,", () ->
                e.run(Scene.of("3* place 0; step 0; arc 0 0 0 2; arc 0 1 0 3; arc 0 2 5 0"),
                    "weights = 2; weight 0 0 = 3; weight 0 1 = -2; weight 0 2 = 0; weight 1 0 = 5; weight 1 1 = 0",
                    "weight 1 2 = 2"));
        e.term(5, 44, "then all divided by the greatest number that divides all of them (of 0s alone by nothing).", () -> {
            e.run(Scene.of("2* place 0; step 0; arc 0 0 0 6; arc 0 1 9 0"), "weights = 1; weight 0 0 = 3; weight 0 1 = 2");
            e.run(Scene.of("2* place 0; step 0; arc 0 0 0 4; arc 0 1 6 0"), "weights = 1; weight 0 0 = 3; weight 0 1 = 2");
            e.run(Scene.of("2* place 0; step 0; arc 0 0 0 8; arc 0 1 0 8"), "weights = 1; weight 0 0 = 1; weight 0 1 = -1");
            // 4 times (0 1 0) and 6 times (1 0 0) are divided by 2; 3 times (0 0 1), less 9 times that, by 3
            e.run(Scene.of("3* place 0; 2* step 0; arc 0 0 0 4; arc 0 1 6 0; arc 1 0 0 1; arc 1 2 0 9"),
                "weights = 1; weight 0 0 = 9; weight 0 1 = 6; weight 0 2 = -1");
        });
        e.term(5, 44, "SPENT: a number beyond 1000000000 in size is in a row then.", () -> {
            for (int sign = -1; sign <= 1; sign += 2) {
                e.run(BalanceEdges.net(BalanceEdges.left(sign, 0), false), "weights = 0");
                e.run(BalanceEdges.net(BalanceEdges.left(sign, sign), false), "weights = SPENT");
                e.run(BalanceEdges.net(BalanceEdges.left(sign, -sign), false), "weights = 0");
            }
            e.run(BalanceEdges.net(BalanceEdges.right(0, 1), false), "weights = 1; weight 0 0 = 1000000000");
            e.run(BalanceEdges.net(BalanceEdges.right(1, 1), false), "weights = 1; weight 0 0 = 999999999");
            e.run(BalanceEdges.net(BalanceEdges.right(1, -1), false), "weights = SPENT");
            e.run(BalanceEdges.net(BalanceEdges.divided(), false), "weights = 1; weight 0 0 = 1; weight 0 13 = -1000000000");
        });
        e.term(5, 45, "At last, the rows left over, in their order, are the WEIGHTS (their RIGHT numbers);", () ->
            e.run(Scene.of("4* place 0; step 0; arc 0 2 1 0; arc 0 3 0 1"),
                "weights = 3; weight 0 0 = 1; weight 1 1 = 1; weight 2 2 = 1; weight 2 3 = 1; weight 2 0 = 0",
                "weight 3 0 = BAD"));
        e.term(5, 45, "one whose first number that is not 0 is below 0 has all its signs turned.", () -> {
            e.run(Scene.of("2* place 0; step 0; arc 0 0 0 1; arc 0 1 0 1"), "weights = 1; weight 0 0 = 1; weight 0 1 = -1");
            e.run(Scene.of("2* place 0; step 0; arc 0 0 1 0; arc 0 1 1 0"), "weights = 1; weight 0 0 = 1; weight 0 1 = -1");
            e.run(Scene.of("3* place 0; step 0; arc 0 1 0 2; arc 0 2 0 3"),
                "weights = 2; weight 1 0 = 0; weight 1 1 = 3; weight 1 2 = -2");
        });
        e.term(5, 46, "ROUNDS likewise, with rows for STEPS, LEFT numbers for PLACES, and PLACES one by one.", () -> {
            e.run(Scene.of("place 0; 4* step 0; arc 1 0 1 0; arc 2 0 0 2; arc 3 0 0 4"),
                "rounds = 3; round 0 0 = 1; round 1 1 = 2; round 1 2 = 1; round 1 3 = 0; round 2 1 = 4; round 2 2 = 0",
                "round 2 3 = 1");
            for (int sign = -1; sign <= 1; sign += 2) {
                e.run(BalanceEdges.net(BalanceEdges.left(sign, 0), true), "rounds = 0");
                e.run(BalanceEdges.net(BalanceEdges.left(sign, sign), true), "rounds = SPENT");
            }
            e.run(BalanceEdges.net(BalanceEdges.right(0, 1), true), "rounds = 1; round 0 0 = 1000000000");
            e.run(BalanceEdges.net(BalanceEdges.right(1, 1), true), "rounds = 1; round 0 0 = 999999999");
            e.run(BalanceEdges.net(BalanceEdges.right(1, -1), true), "rounds = SPENT");
            e.run(BalanceEdges.net(BalanceEdges.divided(), true), "rounds = 1; round 0 0 = 1; round 0 13 = -1000000000");
        });
    }

    private void sets() {
        e.term(6, 52, "SETS of PLACES are told as bits (PLACE p is 1 << p).", () ->
            e.run(Scene.of("16* place 0; 16* step 0", Scenes.ring(16)),
                "isSet 65535 0 = 1; isSet 65534 0 = 0; isSet 32767 0 = 0; greatest 65535 1 = 65535; greatest 65534 1 = 0",
                "isSet 65536 0 = BAD; isSet -1 0 = BAD"));
        e.term(6, 52, "A DRAIN is a set, not empty, such that each STEP that PUTS into a PLACE of it TAKES from one of"
            + " it;", () -> {
            e.run(Scene.of("2* place 0; step 0; arc 0 0 1 0; arc 0 1 0 1"),
                "isSet 0 0 = 0; isSet 1 0 = 1; isSet 2 0 = 0; isSet 3 0 = 1; arc 0 1 1 1; isSet 2 0 = 1; arc 0 0 0 1",
                "isSet 1 0 = 0; isSet 3 0 = 1");
            e.run(Scene.of("place 0"), "isSet 0 0 = 0; isSet 1 0 = 1");
        });
        e.term(6, 52, "a TRAP one such that each STEP that TAKES from one of it PUTS into one of it.", () -> {
            e.run(Scene.of("2* place 0; step 0; arc 0 0 1 0; arc 0 1 0 1"),
                "isSet 0 1 = 0; isSet 1 1 = 0; isSet 2 1 = 1; isSet 3 1 = 1; arc 0 0 1 1; isSet 1 1 = 1; arc 0 1 1 0",
                "isSet 2 1 = 0; isSet 3 1 = 1");
            e.run(Scene.of("place 0"), "isSet 0 1 = 0; isSet 1 1 = 1");
        });
        e.term(6, 50, "LEAST is one within which there is no other one.", () -> {
            e.run(SetsEdges.RINGS, "isSet 15 0 = 1; sets 0 9 = 2; bits 0 = 6; bits 1 = 9; isSet 22 1 = 1; sets 1 9 = 3",
                "bits 2 = 16");
            e.run(Scene.of("2* place 0"), "isSet 3 0 = 1; sets 0 9 = 2; bits 1 = 2; sets 1 9 = 2");
        });
        e.term(6, 53, "THE GREATEST one within a set is that of all of them together (0: there is none).", () -> {
            e.run(SetsEdges.RINGS, "greatest 15 0 = 15; greatest 14 0 = 6; greatest 7 0 = 6; greatest 5 0 = 0",
                "greatest 10 0 = 0; greatest 20 1 = 16; greatest 12 1 = 0; greatest 0 0 = 0");
            e.run(Scene.of("place 0; step 0; arc 0 0 0 1"), "greatest 1 0 = 0; greatest 1 1 = 1");
        });
        e.term(6, 55, "A set HOLDS if it has a PLACE with something.", () -> {
            e.run(Scene.of("2* place 0; 2* step 0", Scenes.ring(2)),
                "bare = 3; mark 1 1; bare = 0; mark 1 0; mark 0 1000000; bare = 0");
            e.run(Scene.of("2* place 1; 2* step 0", Scenes.ring(2)), "bare = 3; thing 1 0; bare = 0; sweep 1; bare = 3");
        });
        e.term(6, 55, "A DRAIN is BARE if the greatest TRAP within it is none, or does not HOLD.", () -> {
            e.run(Scene.of("2* place 0; step 0; arc 0 0 1 0; arc 0 1 0 1; mark 0 5"),
                "greatest 1 1 = 0; bare = 1; arc 0 0 1 1; bare = 0; mark 0 0; bare = 1");
            // the least drain is 0 and 1 together, the greatest trap within it 0 alone
            e.run(Scene.of("2* place 0; 3* step 0; arc 0 1 1 0; arc 0 0 0 1; arc 1 0 1 1; arc 1 1 0 1; arc 2 1 1 0",
                "mark 1 1"), "greatest 3 1 = 1; bare = 3; mark 0 1; bare = 0");
        });
    }

    private void free() {
        e.term(6, 54, "THE NET is FREE, if all PLACES and STEPS are PLAIN,", () -> {
            e.run(Scenes.EMPTY, "free = 1; step 0; free = 1; place 0; free = 0; arc 0 0 1 0; free = 1; step 1; free = 0");
            e.run(Scene.of("place 0; step 0; arc 0 0 1 0"), "free = 1; step 2; free = 0");
            e.run(Scene.of("place 0; step 0; arc 0 0 1 0"), "free = 1; step 3; free = 0");
            e.run(Scene.of("step 1"), "free = 0");
            e.run(Scene.of("15* step 0; step 1"), "free = 0");
            e.run(Scene.of("place 1; step 0; arc 0 0 1 0"), "free = 0");
        });
        e.term(6, 54, "none TAKES or PUTS more than 1,", () -> {
            e.run(Scene.of("place 0; step 0; arc 0 0 1 1"),
                "free = 1; arc 0 0 2 1; free = 0; arc 0 0 1 2; free = 0; arc 0 0 1 0; free = 1; arc 0 0 9 9; free = 0");
            e.run(Scene.of("2* place 0; 2* step 0", Scenes.ring(2)),
                "free = 1; arc 1 0 0 2; free = 0; arc 1 0 0 1; arc 1 1 2 0; free = 0");
            e.run(Scene.of("place 0; 2* step 0; arc 0 0 1 0; arc 1 0 1 1"),
                "free = 1; arc 1 0 1 2; free = 0; arc 1 0 2 1; free = 0");
            e.run(Scenes.WIDEST, "free = 1; arc 15 15 2 0; free = 0; arc 15 15 1 2; free = 0; arc 15 15 1 1; free = 1");
        });
        e.term(6, 54, "each PLACE has a STEP that TAKES from it,", () -> {
            e.run(Scenes.WIDEST, "free = 1; arc 15 15 0 0; free = 0; arc 15 15 1 0; free = 1; arc 0 0 0 1; free = 0");
            e.run(Scene.of("place 0"), "free = 0; step 0; free = 0; arc 0 0 0 1; free = 0; arc 0 0 1 1; free = 1");
        });
        e.term(6, 54, "and a PLACE from which several STEPS TAKE is the only one from which each of these TAKES.", () -> {
            e.run(Scene.of("2* place 0; 2* step 0; arc 0 0 1 0; arc 1 0 1 0; arc 1 1 1 0"),
                "free = 0; arc 0 0 0 0; free = 1");
            e.run(Scene.of("2* place 0; 3* step 0; arc 0 0 1 0; arc 1 0 1 0; arc 2 1 1 0"),
                "free = 1; arc 1 1 0 1; free = 1; arc 2 0 1 0; free = 0; arc 2 1 0 0; free = 0");
            e.run(Scene.of("2* place 0; 2* step 0; arc 0 0 1 0; arc 0 1 1 0"),
                "free = 1; arc 1 0 1 0; free = 0; arc 1 1 1 0; free = 0");
        });
    }

    private void works() {
        Scene line = Scene.of("3* place 0; step 0; arc 0 0 1 0; arc 0 1 0 1");
        e.term(7, 36, "A NET with a PLACE b to begin and a PLACE e to end WORKS, if in the FIELD of the MARKING with 1 at"
            + " b and nothing else:", () -> {
            e.run(line, "mark 0 9; mark 2 9; works 0 1 2 = 0; marking 0 0 = 1; marking 0 1 = 0; marking 0 2 = 0",
                "many 0 = 9; many 2 = 9");
            e.run(Scenes.BOUNDED, "works 1 2 3 = 0; marking 0 1 = 1; marking 0 0 = 0");
        });
        e.term(7, 36, "(1) each MARKING leads to the one with 1 at e and nothing else;", () -> {
            e.run(line, "works 0 1 9 = 0; works 0 2 9 = 1; fault = 0; works 0 0 9 = 1; fault = 1");
            e.run(line, "arc 0 2 0 1; works 0 1 9 = 1; fault = 0; arc 0 2 0 0; arc 0 1 0 2; works 0 1 9 = 1; fault = 0");
        });
        e.term(7, 36, "(2) no other one has something at e;", () -> {
            e.run(line, "arc 0 2 0 1; step 0; arc 1 2 1 0; works 0 1 9 = 2; fault = 1");
            e.run(line, "arc 0 1 0 2; step 0; arc 1 1 2 1; works 0 1 9 = 2; fault = 1");
            e.run(Scene.of("2* place 0; 2* step 0; arc 0 0 1 1; arc 0 1 0 1; arc 1 1 1 0"),
                "works 0 0 9 = SPENT; arc 0 0 1 2; arc 0 1 0 0; works 0 0 9 = SPENT");
        });
        e.term(7, 36, "(3) each STEP GOES somewhere.", () -> {
            e.run(line, "step 0; works 0 1 9 = 0; arc 1 2 1 0; works 0 1 9 = 3; fault = 1; arc 1 2 0 0; works 0 1 9 = 0",
                "fault = NONE");
            e.run(line, "step 3; arc 1 0 1 0; arc 1 1 0 1; works 0 1 9 = 3; fault = 0");
        });
    }
}
