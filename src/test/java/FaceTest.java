import java.io.IOException;
import java.lang.reflect.Member;
import java.lang.reflect.Modifier;
import java.nio.file.Files;
import java.nio.file.Path;
import java.util.ArrayList;
import java.util.List;
import java.util.TreeSet;
import java.util.regex.Matcher;
import java.util.regex.Pattern;
import java.util.stream.Stream;

/** The face of the document, and those rules of LANGUAGE.md that a look at the text can tell. */
public final class FaceTest {
    private static final Due due = new Due("FaceTest");

    public static void main(String[] args) throws IOException {
        String doc = Files.readString(Path.of("../shared/DOC.md"));
        String source = Files.readString(Path.of("src/main/java/NetHouse.java"));
        face(doc);
        constants();
        words(withoutComments(source));
        lengths(source);
        makes(withoutComments(source));
        due.end();
    }

    private static void face(String doc) {
        due.part("the face");
        String text = doc.substring(doc.indexOf("```java"), doc.indexOf("## Terms"));
        TreeSet<String> want = new TreeSet<>();
        Matcher m = Pattern.compile("public int (\\w+)\\(([^)]*)\\)").matcher(text);
        while (m.find()) {
            want.add(m.group(1) + "/" + (m.group(2).isBlank() ? 0 : m.group(2).split(",").length));
        }
        TreeSet<String> got = new TreeSet<>();
        for (var method : NetHouse.class.getDeclaredMethods()) {
            if (!Modifier.isPrivate(method.getModifiers())) {
                got.add(method.getName() + "/" + method.getParameterCount());
                due.holds(method + " is public and answers an int",
                    Modifier.isPublic(method.getModifiers()) && method.getReturnType() == int.class);
            }
        }
        due.holds("methods: " + got + ", due are " + want, got.equals(want));
        due.is("how many", got.size(), 55);
        for (var method : NetHouse.class.getDeclaredMethods()) {
            boolean hidden = Modifier.isPrivate(method.getModifiers());
            due.holds("a private method named as a public one: " + method,
                !hidden || want.stream().noneMatch(w -> w.startsWith(method.getName() + "/")));
        }
        int modifiers = NetHouse.class.getModifiers();
        due.holds("public and final", Modifier.isPublic(modifiers) && Modifier.isFinal(modifiers));
        due.is("constructors", NetHouse.class.getDeclaredConstructors().length, 1);
    }

    private static void constants() {
        due.part("the constants");
        due.is("BAD", NetHouse.BAD, -2000000001);
        due.is("NO", NetHouse.NO, -2000000002);
        due.is("FULL", NetHouse.FULL, -2000000003);
        due.is("SPENT", NetHouse.SPENT, -2000000004);
        due.is("NONE", NetHouse.NONE, -2000000005);
        due.is("ENDLESS", NetHouse.ENDLESS, -2000000006);
        long open = Stream.of(NetHouse.class.getDeclaredFields()).map(Member::getModifiers)
            .filter(m -> !Modifier.isPrivate(m)).count();
        due.is("fields that are not private", open, 6);
        for (Class<?> inside : NetHouse.class.getDeclaredClasses()) {
            due.holds(inside + " is static", Modifier.isStatic(inside.getModifiers()));
            long fields = Stream.of(inside.getDeclaredFields()).filter(f -> !Modifier.isStatic(f.getModifiers())).count();
            due.holds(inside + " has " + fields + " fields", fields <= 20);
        }
        due.holds("some twelve classes", NetHouse.class.getDeclaredClasses().length <= 12);
    }

    private static String withoutComments(String source) {
        return source.replaceAll("(?s)/\\*.*?\\*/", " ").replaceAll("//[^\n]*", " ");
    }

    private static void words(String code) {
        due.part("words");
        for (String word : List.of("throw", "throws", "try", "catch", "synchronized", "assert", "instanceof", "Object",
                "HashMap", "Random", "System\\.nanoTime", "System\\.currentTimeMillis", "System\\.out", "Thread", "File",
                "MAX_VALUE", "MIN_VALUE", "\\w+Exact", "->", "::", "@\\w+", "package", "double", "float",
                "copyOf", "copyOfRange", "clone")) {
            Matcher m = Pattern.compile(Character.isLetter(word.charAt(0)) ? "\\b" + word + "\\b" : word).matcher(code);
            due.holds(word + " is not in the class", !m.find());
        }
        List<String> imports = new ArrayList<>();
        Matcher m = Pattern.compile("import ([^;]+);").matcher(code);
        while (m.find()) {
            imports.add(m.group(1));
        }
        due.holds("imports: " + imports, imports.equals(List.of("java.util.Arrays")));
    }

    private static void lengths(String source) {
        due.part("lengths");
        String[] lines = source.split("\n");
        int start = -1;
        for (int i = 0; i < lines.length; i++) {
            if (lines[i].matches("( {4}| {8})\\S[^=;]*\\(.*\\) \\{")) {
                start = i;
            }
            if (start >= 0 && lines[i].equals(lines[start].replaceAll("\\S.*", "") + "}")) {
                due.holds("the method in line " + (start + 1) + " has " + (i - start) + " lines", i - start <= 60);
                start = -1;
            }
        }
    }

    /** Rows and objects are made with the object: by a field that stays, or in a constructor. */
    private static void makes(String code) {
        due.part("what is made");
        Pattern made = Pattern.compile("\\bnew\\b");
        boolean inConstructor = false;
        int found = 0;
        for (String line : code.split("\n")) {
            if (line.matches(" {4,8}\\S[^=;]*\\(.*\\) \\{")) {
                inConstructor = line.matches(" {4,8}(public )?[A-Z]\\w*\\(.*\\) \\{");
            }
            if (made.matcher(line).find()) {
                boolean ofField = line.matches(" {4,8}(private )?final [\\w\\[\\]]+ \\w+ = new .*");
                due.holds("made in a call: " + line.strip(), ofField || inConstructor);
                found++;
            }
        }
        due.holds("some are made", found > 0);
        for (Class<?> inside : NetHouse.class.getDeclaredClasses()) {
            for (var field : inside.getDeclaredFields()) {
                boolean stays = field.getType().isPrimitive() || Modifier.isFinal(field.getModifiers());
                due.holds(field + " is made once", stays);
            }
        }
    }
}
