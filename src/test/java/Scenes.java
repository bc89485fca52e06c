/** Scenes in which as much as can be is there at once, so that a call that takes something away shows. */
final class Scenes {
    static final Scene EMPTY = Scene.of();

    private static final String FOUND = "weights; rounds; sets 0 9";
    private static final String HAND = "row 5; set 0 4; set 1 -7; set 4 9";

    /** Place 0 and place 1 back and forth, place 2 for good: 3 marks, a field of 10, a tree of 19. */
    static final Scene BOUNDED = Scene.of(
        "3* place 0; step 0; step 1; step 0",
        "arc 0 0 1 0; arc 0 1 0 1; arc 1 1 1 0; arc 1 0 0 1; need 1 1 1; arc 2 1 1 0; arc 2 2 0 1",
        "mark 0 3; go 0; go 0; go 1; go 2; back = 2",
        HAND, "lay 2; lay 0; lay 1",
        "works 0 0 50 = 1; fault = 2; field 50 = 10; tree 50 = 19", FOUND);

    /** As BOUNDED, but nothing has been found of the net. */
    static final Scene UNFOUND = Scene.of(
        "3* place 0; step 0; step 1; step 0",
        "arc 0 0 1 0; arc 0 1 0 1; arc 1 1 1 0; arc 1 0 0 1; need 1 1 1; arc 2 1 1 0; arc 2 2 0 1",
        "mark 0 3; go 0; go 0; go 1; go 2; back = 2",
        HAND, "lay 2; lay 0; lay 1");

    /** From place 3 to place 0, then to place 1 and back again, with one mark more in place 2 each time: a tree of 6. */
    static final Scene GROWING = Scene.of(
        "4* place 0; 3* step 0",
        "arc 0 0 1 0; arc 0 1 0 1; arc 1 1 1 0; arc 1 0 0 1; arc 1 2 0 1; arc 2 3 1 0; arc 2 0 0 1",
        "mark 3 1; go 2; back", HAND, "lay 2; lay 0; lay 1; lay 0", "tree 50 = 6", FOUND);

    /** Steps of all kinds between two plain places: a field, and no tree. */
    static final Scene KINDS = Scene.of(
        "2* place 0; step 0; step 1; step 2; step 3",
        "arc 0 0 1 0; arc 0 1 0 1; arc 1 1 1 0; arc 1 0 0 1; need 1 0 2; arc 2 0 1 0; arc 2 1 0 1; close 2 1 1",
        "arc 3 1 3 0; arc 3 0 0 3; mark 0 3; go 0; go 0; go 0; go 3",
        HAND, "lay 0; lay 3", "works 0 1 50 = 3; fault = 1; field 50 = 4", FOUND);

    /** Place 0 is plain, 1 and 2 are coloured; steps of all kinds, of which the urgent one waits. */
    static final Scene COLOURED = Scene.of(
        "place 0; 2* place 1; step 0; step 1; step 2; step 3",
        "arc 0 1 1 0; want 0 1 1 2; arc 0 2 0 2; want 0 2 0 3; need 1 1 2; close 2 0 1; arc 3 0 1 0",
        "mark 0 0; thing 1 0; thing 1 2; thing 1 3; thing 1 1; thing 2 1; go 0; go 2; go 0; go 1",
        HAND, "lay 0; lay 3; lay 1", FOUND);

    /** As COLOURED, with 20 things in place 1. */
    static final Scene FULL_OF_THINGS = COLOURED.then("sweep 1; 18* thing 1 3; 2* thing 1 1; go 2; go 1");

    /** A ring of 16 places and 16 steps, all found. */
    static final Scene WIDEST = Scene.of("16* place 0; 16* step 0", ring(16), "mark 0 1; go 0; go 1",
        "row 16; set 0 4; set 15 -7", "lay 15; lay 0",
        "works 0 0 20 = 0; fault = NONE; field 16 = 16; tree 17 = 17", FOUND);

    /** One mark after the other goes, 7999 of them: the longest way there can be. */
    static final Scene LONGEST = Scene.of(
        "place 0; step 0; arc 0 0 1 0; mark 0 7999; go 0; back; field 8000 = 8000; way 7999 = 7999; lay 0 = 8000",
        HAND, FOUND);

    /** Step i from place i to the next one, and from the last to the first. */
    static String ring(int places) {
        StringBuilder text = new StringBuilder();
        for (int i = 0; i < places; i++) {
            text.append("arc ").append(i).append(' ').append(i).append(" 1 0; ");
            text.append("arc ").append(i).append(' ').append((i + 1) % places).append(" 0 1; ");
        }
        return text.toString();
    }

    private Scenes() {
    }
}
