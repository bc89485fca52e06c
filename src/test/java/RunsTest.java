import java.lang.reflect.Method;
import java.util.List;
import java.util.Random;

/** All promises: runs of calls of all kinds, the same ones each time, with PlainHouse's answers as those that are due. */
public final class RunsTest {
    private static final int RUNS = 1500;
    private static final int[] ODD = {-1, 16, 17, Integer.MIN_VALUE, Integer.MAX_VALUE, 1000000001, -1000000001};

    private static final Due due = new Due("RunsTest");

    public static void main(String[] args) {
        due.is("how many calls the face has", Twin.CALLS.size(), 55);
        for (int run = 0; run < RUNS; run++) {
            new RunsTest(run).play();
        }
        due.end();
    }

    private final Random random;
    private final Twin twin;
    private final boolean colours;
    private final int kinds;
    private final int places;

    private RunsTest(int run) {
        random = new Random(run);
        twin = new Twin(due, "run " + run);
        colours = run % 3 == 2;
        kinds = 1 + random.nextInt(4);
        places = 1 + random.nextInt(run % 50 == 0 ? 9 : 6);
    }

    private void play() {
        build();
        while (twin.made() < 300) {
            Method m = Twin.CALLS.get(random.nextInt(Twin.CALLS.size()));
            // A net that changes with every tenth call leaves nothing to ask about.
            boolean changes = List.of("place", "step", "arc", "need", "close", "want").contains(m.getName());
            boolean tooWide = m.getName().equals("place") && twin.count(0) >= 9;
            if (!tooWide && (!changes || random.nextInt(8) == 0)) {
                twin.ask(m, arguments(m));
            }
        }
    }

    private void build() {
        for (int p = 0; p < places; p++) {
            twin.ask("place", colours ? random.nextInt(2) : 0);
        }
        int steps = 1 + random.nextInt(6);
        for (int s = 0; s < steps; s++) {
            twin.ask("step", random.nextInt(kinds));
            for (int arcs = random.nextInt(4); arcs > 0; arcs--) {
                twin.ask("arc", s, place(), random.nextInt(2), random.nextInt(2));
            }
            if (random.nextInt(3) > 0) {
                twin.ask("arc", s, place(), 1, 0);
                twin.ask("arc", s, place(), 0, 1);
            }
            if (random.nextInt(3) == 0) {
                twin.ask("need", s, place(), random.nextInt(3));
                twin.ask("close", s, place(), 1);
            }
        }
        for (int p = 0; p < places; p++) {
            twin.ask("mark", p, random.nextInt(4));
            for (int n = random.nextInt(6); n > 0; n--) {
                twin.ask("thing", p, random.nextInt(4));
            }
        }
    }

    private int place() {
        return random.nextInt(places);
    }

    private int[] arguments(Method m) {
        int[] all = new int[m.getParameterCount()];
        String[] parts = partsOf(m.getName()).split(" ");
        for (int i = 0; i < all.length; i++) {
            all[i] = random.nextInt(25) == 0 ? ODD[random.nextInt(ODD.length)] : ordinary(parts[i]);
        }
        return all;
    }

    private static String partsOf(String name) {
        return switch (name) {
            case "place" -> "two";
            case "step" -> "kind";
            case "isOf" -> "step kind";
            case "arc" -> "step place arc arc";
            case "need" -> "step place arc";
            case "close" -> "step place two";
            case "want" -> "step place kind kind";
            case "asks" -> "step place six";
            case "mark", "kind" -> "place small";
            case "thing" -> "place kind";
            case "sweep", "many", "share", "bound" -> "place";
            case "may", "go", "lay", "stuck" -> "step";
            case "run" -> "run";
            case "row", "get", "walk" -> "six";
            case "set" -> "six small";
            case "copy" -> "six six small";
            case "field", "tree" -> "most";
            case "marking", "node" -> "number place";
            case "next" -> "number step";
            case "way", "home" -> "number";
            case "dead", "bits" -> "small";
            case "works" -> "place place most";
            case "above" -> "number small";
            case "weight" -> "small place";
            case "round" -> "small step";
            case "sets" -> "two small";
            case "isSet", "greatest" -> "set two";
            default -> "twelve";
        };
    }

    private int ordinary(String part) {
        return switch (part) {
            case "two" -> random.nextInt(2);
            case "kind" -> random.nextInt(4);
            case "step" -> random.nextInt(twin.count(1) + 1);
            case "place" -> random.nextInt(twin.count(0) + 1);
            case "arc" -> random.nextInt(5) == 0 ? random.nextInt(10) : random.nextInt(2);
            case "six" -> random.nextInt(7);
            case "small" -> random.nextInt(8) - 1;
            case "run" -> random.nextInt(4) == 0 ? random.nextInt(1001) : random.nextInt(6);
            case "most" -> 1 + random.nextInt(60);
            case "number" -> random.nextInt(Math.max(twin.count(6), twin.count(7)) + 2);
            case "set" -> random.nextInt((1 << twin.count(0)) + 1);
            default -> random.nextInt(12);
        };
    }
}
