import java.io.IOException;
import java.net.URL;
import java.net.URLClassLoader;
import java.nio.file.Files;
import java.nio.file.Path;
import java.util.ArrayList;
import java.util.List;
import java.util.TreeSet;
import java.util.regex.Matcher;
import java.util.regex.Pattern;
import javax.tools.JavaCompiler;
import javax.tools.ToolProvider;

/** The examples of README.md: they are compiled as they stand there, and each call answers what stands behind it. */
public final class ReadmeTest {
    private static final Due due = new Due("ReadmeTest");
    private static final String BEGIN = "NetHouse x = new NetHouse();";
    private static final Pattern CALL =
        Pattern.compile("(?:int (\\w+) = )?(x\\.(\\w+)\\([^()]*\\));\\s*// (-?\\d+|[A-Z]+)(?:: \\S.*)?");
    private static final int MOST_CALLS = 512;

    /** A line of an example: the call, and what README.md says of its answer. */
    private record Shown(String variable, String call, String name, String answer) {
        /** The line, with its answer kept as number k of got. */
        String kept(int k) {
            String keep = "got[" + k + "] = ";
            return variable == null ? keep + call + ";" : "int " + variable + " = " + call + "; " + keep + variable + ";";
        }
    }

    public static void main(String[] args) throws Exception {
        List<List<Shown>> examples = new ArrayList<>();
        for (String block : blocks(Files.readString(Path.of("README.md")))) {
            examples.add(shownIn(block));
        }
        due.part("the examples");
        due.holds("there are some", !examples.isEmpty());
        allCallsAreShown(examples);
        List<int[]> answers = answersOf(examples);
        for (int e = 0; e < answers.size(); e++) {
            compare("example " + (e + 1), examples.get(e), answers.get(e));
        }
        due.end();
    }

    private static List<String> blocks(String readme) {
        List<String> found = new ArrayList<>();
        Matcher m = Pattern.compile("(?ms)^```java\n(.*?)^```$").matcher(readme);
        while (m.find()) {
            found.add(m.group(1));
        }
        due.part("the blocks");
        due.is("blocks that are read", found.size(), readme.split("```java", -1).length - 1);
        return found;
    }

    /** Each line but the first one must be a call with its answer, so that none goes by untested. */
    private static List<Shown> shownIn(String block) {
        List<Shown> shown = new ArrayList<>();
        String[] lines = block.split("\n");
        due.holds("an example begins with a new object, not with: " + lines[0], lines[0].equals(BEGIN));
        for (int i = 1; i < lines.length; i++) {
            Matcher m = CALL.matcher(lines[i]);
            boolean read = m.matches();
            due.holds("a call with its answer: " + lines[i], read);
            if (read) {
                shown.add(new Shown(m.group(1), m.group(2), m.group(3), m.group(4)));
            }
        }
        due.holds("some calls, and no more than an object is used for", !shown.isEmpty() && shown.size() <= MOST_CALLS);
        return shown;
    }

    private static void allCallsAreShown(List<List<Shown>> examples) throws IOException {
        String doc = Files.readString(Path.of("../shared/DOC.md"));
        TreeSet<String> face = new TreeSet<>();
        Matcher m = Pattern.compile("public int (\\w+)\\(").matcher(doc);
        while (m.find()) {
            face.add(m.group(1));
        }
        due.is("calls of the face", face.size(), 55);
        for (List<Shown> example : examples) {
            for (Shown line : example) {
                face.remove(line.name());
            }
        }
        due.holds("calls that no example shows: " + face, face.isEmpty());
    }

    private static List<int[]> answersOf(List<List<Shown>> examples) throws Exception {
        Path place = Files.createTempDirectory("readme");
        Path source = place.resolve("ReadmeExamples.java");
        try {
            Files.writeString(source, sourceOf(examples));
            JavaCompiler javac = ToolProvider.getSystemJavaCompiler();
            boolean compiled = javac != null && javac.run(null, null, null, "-encoding", "UTF-8",
                "-cp", System.getProperty("java.class.path"), "-d", place.toString(), source.toString()) == 0;
            due.holds("the examples compile", compiled);
            return compiled ? answersFrom(place, examples.size()) : List.of();
        } finally {
            Files.deleteIfExists(place.resolve("ReadmeExamples.class"));
            Files.deleteIfExists(source);
            Files.deleteIfExists(place);
        }
    }

    private static List<int[]> answersFrom(Path place, int examples) throws Exception {
        List<int[]> answers = new ArrayList<>();
        try (URLClassLoader loader =
                new URLClassLoader(new URL[] {place.toUri().toURL()}, ReadmeTest.class.getClassLoader())) {
            Class<?> made = loader.loadClass("ReadmeExamples");
            for (int e = 0; e < examples; e++) {
                answers.add((int[]) made.getMethod("example" + e).invoke(null));
            }
        }
        return answers;
    }

    private static String sourceOf(List<List<Shown>> examples) {
        StringBuilder text = new StringBuilder("public final class ReadmeExamples {\n");
        for (int e = 0; e < examples.size(); e++) {
            List<Shown> example = examples.get(e);
            text.append("public static int[] example").append(e).append("() {\n");
            text.append("int[] got = new int[").append(example.size()).append("];\n").append(BEGIN).append("\n");
            for (int k = 0; k < example.size(); k++) {
                text.append(example.get(k).kept(k)).append("\n");
            }
            text.append("return got;\n}\n");
        }
        return text.append("}\n").toString();
    }

    private static void compare(String part, List<Shown> example, int[] answers) throws Exception {
        due.part(part);
        for (int k = 0; k < example.size(); k++) {
            Shown line = example.get(k);
            boolean named = Character.isLetter(line.answer().charAt(0));
            int want = named ? NetHouse.class.getField(line.answer()).getInt(null) : Integer.parseInt(line.answer());
            due.is(line.call(), answers[k], want);
        }
    }
}
