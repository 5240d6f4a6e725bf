import java.lang.reflect.Constructor;
import java.lang.reflect.Field;
import java.lang.reflect.Member;
import java.lang.reflect.Method;
import java.lang.reflect.Modifier;
import java.nio.file.Files;
import java.nio.file.Path;
import java.util.Arrays;
import java.util.List;
import java.util.Set;
import java.util.TreeSet;
import java.util.regex.Matcher;
import java.util.regex.Pattern;

/** The public face is the document's and no other, and the source keeps to what LANGUAGE.md lets it use. */
public final class FaceTest {
    private static final Check CHECK = new Check("face");
    private static final Path SOURCE = Path.of("src/main/java/OneOfEach.java");

    private static final List<String> FACE = List.of(
        "int sock(int, int, int, int)", "int type(long, int)", "int socks()", "int told(int, int)", "int fade(int, int)",
        "int set(int, int)", "int monday(int, int)", "int found(int)", "int alike(int, int)", "int fellows(int, int)",
        "int count(int)", "int pairs(int)", "int fellow(int)", "int pairUp()", "int part(int)", "int judge(int, int, int)",
        "int thrown(int, int, int, int, int, int)", "long worth(int, int, int, int, int, int, int)", "int worst()",
        "int odds(int, int)", "int owns(int, int, int, int)", "int may(int, int)", "int bind(int, int)", "long ways()",
        "int whose(int)", "int seldom(int)", "int lacks(int, int)", "int wish(int, int)", "int buy()", "int marks(int, int, int)",
        "int image()", "int restore()", "int sheet(int, int, int)", "int drop(int)", "int item(int, int, int, int)");

    private static final List<String> CONSTANTS = List.of(
        "BAD -1", "NOT -2", "FULL -3", "NONE -4", "NULL -11", "CAST -12", "INDEX -13", "SIZE -14");

    private static final List<String> BARRED = List.of(
        "throw", "throws", "try", "catch", "synchronized", "assert", "import", "package", "protected", "->", "::", "Exact",
        "hashCode", "toString", "System.out", "System.nano", "System.current", "Random", "Thread", "double", "float",
        "@Override", "extends", "Object");

    public static void main(String[] args) throws Exception {
        face();
        faceOfTheDocument(Files.readString(SOURCE), Path.of(System.getProperty("shared", "../shared"), "DOC.md"));
        nestedClasses();
        source(Files.readString(SOURCE));
        CHECK.end();
    }

    private static void face() throws Exception {
        CHECK.holds("final", Modifier.isFinal(OneOfEach.class.getModifiers()));
        CHECK.holds("public", Modifier.isPublic(OneOfEach.class.getModifiers()));
        Set<String> seen = new TreeSet<>();
        for (Method method : OneOfEach.class.getDeclaredMethods()) {
            if (!isHidden(method)) {
                String types = String.join(", ", Arrays.stream(method.getParameterTypes()).map(Class::getName).toList());
                seen.add(method.getReturnType() + " " + method.getName() + "(" + types + ")");
                CHECK.holds(method + " is public and no more", method.getModifiers() == Modifier.PUBLIC);
            }
        }
        CHECK.holds("methods " + seen, seen.equals(new TreeSet<>(FACE)));
        Set<String> constants = new TreeSet<>();
        for (Field field : OneOfEach.class.getDeclaredFields()) {
            if (!isHidden(field)) {
                constants.add(field.getName() + " " + field.getInt(null));
                CHECK.holds(field + " is a constant", field.getModifiers() == (Modifier.PUBLIC | Modifier.STATIC | Modifier.FINAL));
            }
        }
        CHECK.holds("constants " + constants, constants.equals(new TreeSet<>(CONSTANTS)));
        Constructor<?>[] constructors = OneOfEach.class.getDeclaredConstructors();
        CHECK.due("constructors", constructors.length, 1);
        CHECK.due("its parameters", constructors[0].getParameterCount(), 0);
        CHECK.holds("it is public", Modifier.isPublic(constructors[0].getModifiers()));
    }

    /** Each line of the document's face stands in the source as it is written there, names of parameters too. */
    private static void faceOfTheDocument(String source, Path document) throws Exception {
        Matcher face = Pattern.compile("(?s)```java\n(.*?)```").matcher(Files.readString(document));
        CHECK.holds("the document has a face", face.find());
        int lines = 0;
        for (String line : face.group(1).split("\n")) {
            String begun = line.startsWith("    public ") && line.endsWith(");") ? line.replaceAll(";$", " {") : line;
            CHECK.holds("the source has the line '" + begun.trim() + "'", source.contains("\n" + begun + "\n"));
            lines++;
        }
        CHECK.due("lines of the face: the class, its constants, its constructor, its calls, its end", lines, 3 + FACE.size() + 1);
    }

    private static boolean isHidden(Member member) {
        return Modifier.isPrivate(member.getModifiers()) || member.isSynthetic();
    }

    private static void nestedClasses() {
        Set<String> names = new TreeSet<>();
        for (Method method : OneOfEach.class.getDeclaredMethods()) {
            if (Modifier.isPublic(method.getModifiers())) names.add(method.getName());
            else CHECK.holds(method + " bears no public name", FACE.stream().noneMatch(f -> f.contains(" " + method.getName() + "(")));
        }
        CHECK.holds("at most twelve classes", OneOfEach.class.getDeclaredClasses().length < 12);
        for (Class<?> inner : OneOfEach.class.getDeclaredClasses()) {
            CHECK.holds(inner + " is static", Modifier.isStatic(inner.getModifiers()));
            for (Method method : inner.getDeclaredMethods()) {
                CHECK.holds(method + " bears no public name", !names.contains(method.getName()));
                CHECK.holds(method + " has few parameters", method.getParameterCount() <= 7);
            }
            long fields = Arrays.stream(inner.getDeclaredFields()).filter(f -> !Modifier.isStatic(f.getModifiers())).count();
            CHECK.holds(inner + " has few fields", fields <= 20);
            for (Field field : inner.getDeclaredFields()) {
                if (Modifier.isStatic(field.getModifiers())) CHECK.holds(field + " is final", Modifier.isFinal(field.getModifiers()));
            }
        }
    }

    private static void source(String text) {
        String code = text.replaceAll("(?s)/\\*.*?\\*/", " ").replaceAll("//[^\n]*", " ");
        for (String word : BARRED) {
            String pattern = Character.isLetter(word.charAt(0)) ? "\\b" + Pattern.quote(word) + "\\b" : Pattern.quote(word);
            CHECK.holds("'" + word + "' does not stand in the class", !Pattern.compile(pattern).matcher(code).find());
        }
        CHECK.holds("only signs 1 to 127", text.chars().allMatch(c -> c >= 1 && c <= 127));
        Matcher library = Pattern.compile("\\b(System|Math|Integer|Long|Arrays)\\.(\\w+)").matcher(code);
        List<String> known = List.of("System.arraycopy", "Math.max", "Math.min", "Math.abs", "Integer.bitCount", "Long.bitCount");
        while (library.find()) {
            CHECK.holds(library.group() + " is listed", known.contains(library.group()));
        }
        methodsAreShort(code);
    }

    private static void methodsAreShort(String code) {
        int begun = -1;
        String[] lines = code.split("\n");
        for (int i = 0; i < lines.length; i++) {
            if (lines[i].matches(" {4,8}(public|private|static|final|int|long|boolean|void|[A-Z]\\w*).*\\) \\{")) begun = i;
            boolean ends = begun >= 0 && lines[i].matches(" {4,8}\\}") && lines[i].indexOf('}') == lines[begun].replaceAll("\\S.*", "").length();
            if (ends) {
                CHECK.holds("a short method at line " + begun + ": " + lines[begun].trim(), i - begun <= 60);
                begun = -1;
            }
        }
    }
}
