import java.util.ArrayList;
import java.util.List;

/**
 * All that can be asked of what a scene has made, part by part, in rows of calls for one object each. What the asking
 * itself changes (THE WAY by way and pump, all by back) stands in a row of its own.
 */
final class Look {
    enum Part { NET, MARKS, PAST, GOINGS, ROW, WAY, FIELD, FAULT, TREE, WEIGHTS, ROUNDS, SETS, DRAINS }

    record Probe(Part part, String call) {
    }

    private static final int SHORT = 12, FEW_BACKS = 16, FEW_THINGS = 6;

    private final int room;
    private final House sizes;
    private final int places;
    private final int steps;
    private final boolean[] coloured;
    private final List<List<Probe>> rows = new ArrayList<>();
    private List<Probe> row = new ArrayList<>();

    private Look(House sizes, int room) {
        this.sizes = sizes;
        this.room = room;
        places = sizes.ask("count 0");
        steps = sizes.ask("count 1");
        coloured = new boolean[places];
        for (int p = 0; p < places; p++) {
            coloured[p] = sizes.ask("kind " + p + " -1") == Due.BAD;
        }
    }

    /** Rows of calls for an object that has made so many calls already. */
    static List<List<Probe>> at(House made, int calls) {
        Look look = new Look(made, House.MOST_CALLS - calls);
        look.lookAtNet();
        look.lookAtMarks();
        look.lookAtHand();
        look.lookAtField();
        look.lookAtTree();
        look.lookAtFound(Part.WEIGHTS, 8, "weight", look.places);
        look.lookAtFound(Part.ROUNDS, 9, "round", look.steps);
        look.lookAtSets();
        look.nextRow();
        look.lookAlongWays();
        look.lookAtPump();
        look.lookAtPast();
        return look.rows;
    }

    private void ask(Part part, String call) {
        if (row.size() == room) {
            nextRow();
        }
        row.add(new Probe(part, call));
    }

    private void nextRow() {
        if (!row.isEmpty()) {
            rows.add(row);
        }
        row = new ArrayList<>();
    }

    /** All numbers below a size and the one behind them; of a great size those at both ends. */
    private static List<Integer> numbers(int size) {
        List<Integer> all = new ArrayList<>();
        for (int i = 0; i <= size; i++) {
            if (i < SHORT || i > size - SHORT) {
                all.add(i);
            }
        }
        return all;
    }

    private void lookAtNet() {
        ask(Part.NET, "count 0");
        ask(Part.NET, "count 1");
        ask(Part.NET, "free");
        for (int s = 0; s < steps; s++) {
            for (int kind = 0; kind < 4; kind++) {
                ask(Part.NET, "isOf " + s + " " + kind);
            }
            for (int p = 0; p < places; p++) {
                for (int what = 0; what < 6; what++) {
                    ask(Part.NET, "asks " + s + " " + p + " " + what);
                }
            }
        }
        for (int p = 0; p < places; p++) {
            ask(Part.NET, "kind " + p + " -1");
        }
    }

    private void lookAtMarks() {
        for (int p = 0; p < places; p++) {
            ask(Part.MARKS, "share " + p);
            lookIn(Part.MARKS, p, sizes.ask("many " + p));
        }
        for (int s = 0; s < steps; s++) {
            ask(Part.MARKS, "may " + s);
        }
        ask(Part.PAST, "count 2");
        ask(Part.GOINGS, "count 3");
        ask(Part.FAULT, "fault");
    }

    private void lookIn(Part part, int place, int things) {
        ask(part, "many " + place);
        for (int i = 0; i <= things && coloured[place]; i++) {
            ask(part, "kind " + place + " " + i);
        }
    }

    private void lookAtHand() {
        ask(Part.ROW, "count 4");
        for (int i : numbers(sizes.ask("count 4"))) {
            ask(Part.ROW, "get " + i);
        }
        ask(Part.WAY, "count 5");
        for (int i : numbers(sizes.ask("count 5"))) {
            ask(Part.WAY, "walk " + i);
        }
    }

    private void lookAtField() {
        ask(Part.FIELD, "count 6");
        for (int i : numbers(sizes.ask("count 6"))) {
            for (int p = 0; p < places; p++) {
                ask(Part.FIELD, "marking " + i + " " + p);
            }
            for (int s = 0; s < steps; s++) {
                ask(Part.FIELD, "next " + i + " " + s);
            }
            ask(Part.FIELD, "home " + i);
        }
        for (int s = 0; s < steps; s++) {
            ask(Part.FIELD, "stuck " + s);
        }
        for (int k = 0; k < 3; k++) {
            ask(Part.FIELD, "dead " + k);
        }
    }

    private void lookAtTree() {
        ask(Part.TREE, "count 7");
        for (int i : numbers(sizes.ask("count 7"))) {
            for (int p = 0; p < places; p++) {
                ask(Part.TREE, "node " + i + " " + p);
            }
            for (int what = 0; what < 3; what++) {
                ask(Part.TREE, "above " + i + " " + what);
            }
        }
        for (int p = 0; p < places; p++) {
            ask(Part.TREE, "bound " + p);
        }
    }

    private void lookAtFound(Part part, int what, String name, int width) {
        ask(part, "count " + what);
        for (int k : numbers(sizes.ask("count " + what))) {
            for (int i = 0; i < width; i++) {
                ask(part, name + " " + k + " " + i);
            }
        }
    }

    private void lookAtSets() {
        ask(Part.SETS, "count 10");
        for (int k : numbers(sizes.ask("count 10"))) {
            ask(Part.SETS, "bits " + k);
        }
        int all = (1 << places) - 1;
        for (int what = 0; what < 2; what++) {
            for (int set : numbers(all)) {
                ask(Part.DRAINS, "isSet " + set + " " + what);
                ask(Part.DRAINS, "greatest " + set + " " + what);
            }
        }
        ask(Part.DRAINS, "bare");
    }

    private void lookAlongWays() {
        for (int i : numbers(sizes.ask("count 6"))) {
            ask(Part.FIELD, "way " + i);
            ask(Part.FIELD, "walk 0");
            ask(Part.FIELD, "walk 1");
            ask(Part.FIELD, "walk 2");
        }
        nextRow();
    }

    private void lookAtPump() {
        ask(Part.WAY, "lift");
        ask(Part.TREE, "pump");
        ask(Part.TREE, "walk 0");
        ask(Part.TREE, "walk 1");
        ask(Part.TREE, "walk 2");
        nextRow();
    }

    private void lookAtPast() {
        int backs = sizes.ask("count 2") + 1;
        for (int i = 0; i < backs; i++) {
            ask(Part.PAST, "back");
            for (int p = 0; p < places && (backs <= FEW_BACKS || i >= backs - 2); p++) {
                lookIn(Part.PAST, p, FEW_THINGS);
            }
        }
        nextRow();
    }
}
