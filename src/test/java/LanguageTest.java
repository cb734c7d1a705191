import java.io.IOException;
import java.lang.reflect.Field;
import java.lang.reflect.Method;
import java.lang.reflect.Modifier;
import java.nio.file.Files;
import java.nio.file.Path;
import java.util.ArrayList;
import java.util.List;
import java.util.regex.Matcher;
import java.util.regex.Pattern;

/**
 * What can be seen of the rules of LANGUAGE.md without reading: words that the class does without, the library, and the
 * sizes of rule 11. (FaceTest looks at rules 1 and 5.) It is run from the project's root.
 */
public final class LanguageTest {
    private static final Path SOURCE = Path.of("src/main/java/FountainShow.java");
    /** The class needs none of these, though the rules leave some of them for a class that does. */
    private static final String[] UNUSED = {
        "package", "import", "throw", "throws", "try", "catch", "finally", "synchronized", "assert", "instanceof",
        "volatile", "transient", "native", "strictfp", "protected", "yield", "var", "Object", "Thread", "equals",
        "hashCode", "toString"};
    private static final String LIBRARY = "System\\.arraycopy|Math\\.(min|max|floorDiv|floorMod)";
    private static final Check CHECK = new Check();

    private final List<String> lines = new ArrayList<>();
    private final String code;

    private LanguageTest() throws IOException {
        String source = Files.readString(SOURCE);
        CHECK.isTrue("signs 1 to 127 alone", source.chars().allMatch(sign -> sign >= 1 && sign <= 127));
        code = source.replaceAll("(?s)/\\*.*?\\*/", "").replaceAll("//.*", "").replaceAll("'.'", "' '");
        lines.addAll(List.of(code.split("\n")));
    }

    public static void main(String[] args) throws IOException {
        LanguageTest source = new LanguageTest();
        source.oneFile();
        source.words();
        source.library();
        source.objectsAreMadeInTheBeginning();
        source.methodsAreShort();
        sizes();
        CHECK.end();
    }

    private void oneFile() throws IOException {
        try (var files = Files.walk(Path.of("src/main"))) {
            CHECK.due("files of the program", files.filter(Files::isRegularFile).count(), 1);
        }
    }

    private void words() {
        for (String word : UNUSED) {
            CHECK.isTrue("no " + word, !Pattern.compile("\\b" + word + "\\b").matcher(code).find());
        }
        for (String sign : new String[] {"->", "::", "@", "\"", "[][]", "..."}) {
            CHECK.isTrue("no " + sign, !code.contains(sign));
        }
    }

    private void library() {
        Matcher calls = Pattern.compile("\\b(System|Math|Arrays|Integer|Long|Character|Float|Double|String)\\b(\\.\\w+)?")
            .matcher(code);
        while (calls.find()) {
            CHECK.isTrue(calls.group(), calls.group().matches(LIBRARY));
        }
    }

    /** The room of all calls: what a call makes is nothing. */
    private void objectsAreMadeInTheBeginning() {
        for (String line : lines) {
            CHECK.isTrue(line.strip(), !line.contains(" new ")
                || line.matches(" +(private )?final \\S+ \\w+ = new .*;| +values = new int\\[.*"));
        }
    }

    private void methodsAreShort() {
        int begin = 0;
        for (int i = 0; i < lines.size(); i++) {
            if (lines.get(i).matches("( {4}| {8})[^ ].*\\) \\{")) {
                begin = i;
            } else if (lines.get(i).matches(" {4}\\}| {8}\\}")) {
                CHECK.isTrue(lines.get(begin).strip() + " is short", i - begin < 60);
            }
        }
    }

    private static void sizes() {
        List<Class<?>> all = new ArrayList<>(List.of(FountainShow.class.getDeclaredClasses()));
        all.add(FountainShow.class);
        CHECK.isTrue("twelve classes at most", all.size() <= 12);
        for (Class<?> one : all) {
            int fields = 0;
            for (Field field : one.getDeclaredFields()) {
                fields += Modifier.isStatic(field.getModifiers()) ? 0 : 1;
            }
            CHECK.isTrue(one.getName() + " has twenty fields at most", fields <= 20);
            for (Method method : one.getDeclaredMethods()) {
                CHECK.isTrue(method.getName() + " has seven parameters at most", method.getParameterCount() <= 7);
            }
        }
    }
}
