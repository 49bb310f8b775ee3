import java.io.IOException;
import java.nio.file.Files;
import java.nio.file.Path;
import java.util.List;

/** What LANGUAGE.md rules out does not stand in the class (as far as its words can be looked for). */
public final class LanguageTest {
    private static final String[] RULED_OUT = {
        "\\bimport\\b", "\\bpackage\\b", "\\bcatch\\b", "\\btry\\b", "\\bfinally\\b", "\\bassert\\b", "\\bsynchronized\\b",
        "->", "::", "Exact\\(", "\\bstatic\\s*\\{", "\\binstanceof\\b", "\\bdouble\\b", "\\bfloat\\b", "\\bprotected\\b",
        "\\bwhile\\s*\\(\\s*true\\s*\\)", "for\\s*\\(\\s*;", "\\b(System|Math|Integer|Long|Arrays)\\.(?!arraycopy|min|max|bitCount)",
    };
    private static final String THROW = "throw new IllegalStateException(";

    public static void main(String[] args) throws IOException {
        Check check = new Check();
        List<String> lines = Files.readAllLines(Path.of("src/main/java/TreeCounts.java"));
        int throwing = 0;
        for (int k = 0; k < lines.size(); k++) {
            String line = lines.get(k).strip();
            if (line.startsWith("*") || line.startsWith("/*") || line.startsWith("//")) {
                continue;
            }
            for (String pattern : RULED_OUT) {
                check.holds("line " + (k + 1) + " has no " + pattern, !line.matches(".*(" + pattern + ").*"));
            }
            throwing += line.contains("throw ") ? 1 : 0;
            check.holds("line " + (k + 1) + " throws what the document names", !line.contains("throw ") || line.startsWith(THROW));
        }
        check.due("throws in the class", throwing, 1);
        check.end();
    }
}
