import java.io.IOException;
import java.lang.reflect.Modifier;
import java.nio.file.Files;
import java.nio.file.Path;
import java.util.Set;
import java.util.TreeSet;
import java.util.regex.Matcher;
import java.util.regex.Pattern;

/** Some rules of LANGUAGE.md that can be seen in the text of the class, and its public face. */
public final class LanguageTest {
    private static final Bench bench = new Bench();

    public static void main(String[] args) throws IOException {
        String source = Files.readString(Path.of("src/main/java/TextBridge.java"));
        String code = source.replaceAll("(?s)/\\*.*?\\*/", " ").replaceAll("//[^\n]*", " ")
            .replaceAll("\"(\\\\.|[^\"\\\\\n])*\"", "S").replaceAll("'(\\\\.|[^'\\\\])'", "C");
        none(code, "\\b(throw|throws|try|catch|finally|synchronized|assert|import|package|native|volatile|var)\\b");
        none(code, "->|::|@");
        none(code, "Exact\\b");
        none(code, "\\bprotected\\b");
        none(code, "\\bstatic\\s*\\{");
        none(code, "\\bwhile\\s*\\(\\s*true|for\\s*\\(\\s*;");
        none(code, "\\.(equals|hashCode|toString)\\(");
        for (char sign : source.toCharArray()) {
            if (sign > 126 || sign < 32 && sign != '\n') {
                bench.due("a sign of the source", sign, '\n');
            }
        }
        face();
        bench.finish("LanguageTest");
    }

    private static void none(String code, String pattern) {
        Matcher found = Pattern.compile(pattern).matcher(code);
        bench.due("the source against " + pattern, found.find() ? found.group() : "", "");
    }

    private static void face() {
        bench.due("final", Modifier.isFinal(TextBridge.class.getModifiers()) ? 1 : 0, 1);
        Set<String> open = new TreeSet<>();
        for (var method : TextBridge.class.getDeclaredMethods()) {
            if (!Modifier.isPrivate(method.getModifiers()) && !method.isSynthetic()) {
                open.add(method.toString().replace("TextBridge.", ""));
            }
        }
        for (var field : TextBridge.class.getDeclaredFields()) {
            if (!Modifier.isPrivate(field.getModifiers())) {
                open.add(field.toString().replace("TextBridge.", ""));
            }
        }
        bench.due("the face", open.toString(), new TreeSet<>(Set.of(
            "public static final int NONE",
            "public int feed(int,int,int,int,int)",
            "public int end(int)",
            "public boolean bounds(int,int)",
            "public int toCbor()",
            "public int toJson()",
            "public int errorAt()",
            "public int out(int)",
            "public int outSize()",
            "public int take()")).toString());
        bench.due("constructors", TextBridge.class.getDeclaredConstructors().length, 1);
    }
}
