import java.io.IOException;
import java.nio.file.Files;
import java.nio.file.Path;
import java.util.List;

/** What LANGUAGE.md rules out does not stand in the class (as far as its words can be looked for). */
public final class LanguageTest {
    private static final String[] RULED_OUT = {
        "\\bpackage\\b", "\\bimport\\b(?! java\\.util\\.(ArrayList|List|Arrays|Iterator|NoSuchElementException);)",
        "\\bfinally\\b", "\\bassert\\b", "\\bsynchronized\\b", "\\bprotected\\b", "\\bvolatile\\b", "\\bnative\\b", "\\btransient\\b",
        "::", "Exact\\(", "\\bstatic\\s*\\{", "\\bnew Random\\b", "\\bThread\\b", "\\bgetMessage\\b",
        "\\bSystem\\.(?!arraycopy)", "\\bthrow (?!new (IllegalState|IllegalArgument|IndexOutOfBounds|Arithmetic|UnsupportedOperation|NoSuchElement|Runtime))",
        "\\bcatch\\s*\\(\\s*(final )?(Throwable|Exception|Error|ArrayIndexOutOfBounds|NullPointer|ClassCast|NegativeArraySize|ArrayStore|StackOverflow|OutOfMemory)",
    };
    /** An arrow is fine behind a case, and nowhere else. */
    private static final String LAMBDA = "^(?!\\s*(case\\b|default\\b)).*->.*";
    private static final int MOST_LINES_OF_A_METHOD = 65;

    public static void main(String[] args) throws IOException {
        Check check = new Check();
        List<String> lines = Files.readAllLines(Path.of("src/main/java/TreeCounts.java"));
        int begin = 0;
        for (int k = 0; k < lines.size(); k++) {
            String line = lines.get(k);
            check.holds("line " + (k + 1) + " has characters 0 to 255", line.chars().allMatch(c -> c <= 255));
            String bare = line.strip();
            if (bare.startsWith("*") || bare.startsWith("/*") || bare.startsWith("//")) {
                continue;
            }
            for (String pattern : RULED_OUT) {
                check.holds("line " + (k + 1) + " has no " + pattern, !line.matches(".*(" + pattern + ").*"));
            }
            check.holds("line " + (k + 1) + " has no lambda", !line.matches(LAMBDA));
            if (line.matches("( {4}| {8})\\S.*\\) (throws \\w+ )?\\{")) {
                begin = k;
            }
            if (line.equals("    }") || line.equals("        }")) {
                check.holds("the method at line " + (begin + 1) + " is short", begin == 0 || k - begin < MOST_LINES_OF_A_METHOD);
                begin = 0;
            }
        }
        check.end();
    }
}
