import java.util.ArrayList;
import java.util.EnumSet;
import java.util.HashMap;
import java.util.List;
import java.util.Map;
import java.util.Set;
import java.util.TreeMap;
import java.util.regex.Matcher;
import java.util.regex.Pattern;

/**
 * Tests of the document's sentences, each named by its promise and the document's own words. At the end all words of
 * all promises, and of the terms, must have been the name of a test.
 */
final class Edges {
    private static final int PROMISES = 56, TERMS = 7;

    /** A section of the document; what a test was named by is struck out of rest. */
    private static final class Section {
        final String text;
        final StringBuilder rest;

        Section(String text) {
            this.text = text.replace("&lt;", "<").replaceAll("```\\w*", " ").replaceAll("\\s+", " ").trim();
            rest = new StringBuilder(this.text);
        }

        /** Whether the words stand there, once. */
        boolean strike(String words) {
            int at = text.indexOf(words);
            if (at < 0 || text.indexOf(words, at + 1) >= 0) {
                return false;
            }
            for (int i = at; i < at + words.length(); i++) {
                rest.setCharAt(i, ' ');
            }
            return true;
        }
    }

    private record Before(Look.Probe probe, int answer) {
    }

    private final Due due;
    private final Map<String, Section> sections = new TreeMap<>();
    private final Map<Scene, List<List<Before>>> looks = new HashMap<>();
    private int tests = 0;

    Edges(Due due, String doc) {
        this.due = due;
        for (int n = 1; n <= PROMISES; n++) {
            sections.put("promise " + n, new Section(promise(doc, n)));
        }
        String[] terms = between(doc, "## Terms", "Ahead of the calls `place`").split("={8} \\d");
        for (int part = 0; part < terms.length; part++) {
            sections.put("terms " + part, new Section(terms[part]));
        }
        due.is("parts of the terms", terms.length, TERMS + 1);
    }

    private static String promise(String doc, int n) {
        Matcher m = Pattern.compile("## Promise " + n + ": [^\n]*\n\n`[^`]*`:([^\n]*)\n").matcher(doc);
        return m.find() ? m.group(1) : "";
    }

    private static String between(String doc, String from, String to) {
        int start = doc.indexOf(from) + from.length();
        return doc.substring(start, doc.indexOf(to, start));
    }

    // ---- tests and their names

    /** A test of one sentence of a promise. */
    void of(int promise, String words, Runnable test) {
        begin("promise " + promise, "promise " + promise, words, test);
    }

    /** A test of one sentence of the terms, and the promise by which it is seen. */
    void term(int part, int promise, String words, Runnable test) {
        begin("terms " + part, "promise " + promise + ", by the terms " + part, words, test);
    }

    private void begin(String section, String name, String words, Runnable test) {
        due.part(name + ", \"" + words + "\"");
        due.holds("the words stand in the document, once", sections.get(section).strike(words));
        tests++;
        test.run();
    }

    void end() {
        due.part("the document");
        for (Map.Entry<String, Section> one : sections.entrySet()) {
            String rest = one.getValue().rest.toString().replaceAll("[\\s.,;:()]+", " ").trim();
            due.holds("no test is named by these words of " + one.getKey() + ": " + rest,
                rest.isEmpty() && !one.getValue().text.isEmpty());
        }
        System.out.println("EdgesTest: " + tests + " sentences");
    }

    // ---- what a test looks at

    /** Calls on a new object in a scene; those without an answer that is due must not be refused. */
    void run(Scene scene, String... texts) {
        tell(made(scene), Scene.of(texts));
    }

    /** Each of the calls is refused so, and nothing else has changed. */
    void refuses(Scene scene, String answer, String... calls) {
        for (String call : calls) {
            changes(scene, call + " = " + answer);
        }
    }

    /** Each of the calls, "many 0 = 3", only tells something. */
    void leaves(Scene scene, String... calls) {
        for (String call : calls) {
            changes(scene, call);
        }
    }

    /** Behind the call all that can be asked of the other parts is answered as without it. */
    void changes(Scene scene, String call, Look.Part... parts) {
        Set<Look.Part> changed = EnumSet.noneOf(Look.Part.class);
        changed.addAll(List.of(parts));
        for (List<Before> row : looks.computeIfAbsent(scene, this::look)) {
            House house = made(scene);
            tell(house, Scene.of(call));
            for (Before before : row) {
                // Asked in any case: what a call of this row finds may hang on those before it.
                int answer = house.ask(before.probe.call());
                if (!changed.contains(before.probe.part())) {
                    due.is("behind " + call + ": " + before.probe.call(), answer, before.answer);
                }
            }
        }
    }

    private List<List<Before>> look(Scene scene) {
        List<List<Before>> all = new ArrayList<>();
        for (List<Look.Probe> row : Look.at(made(scene), scene.calls.size() + 1)) {
            House house = made(scene);
            List<Before> answers = new ArrayList<>();
            for (Look.Probe probe : row) {
                answers.add(new Before(probe, house.ask(probe.call())));
            }
            all.add(answers);
        }
        return all;
    }

    private House made(Scene scene) {
        House house = new House();
        tell(house, scene);
        return house;
    }

    private void tell(House house, Scene scene) {
        for (String call : scene.calls) {
            String[] sides = call.split("=");
            int answer = house.ask(sides[0]);
            if (sides.length > 1) {
                due.is(sides[0].trim(), answer, House.number(sides[1].trim()));
            } else {
                due.holds(call + " answered " + answer, !House.isRefusal(answer));
            }
        }
    }
}
