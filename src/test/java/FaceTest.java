import java.io.IOException;
import java.lang.reflect.Constructor;
import java.lang.reflect.Field;
import java.lang.reflect.Method;
import java.lang.reflect.Modifier;
import java.nio.file.Files;
import java.nio.file.Path;
import java.util.Set;
import java.util.TreeSet;
import java.util.regex.Matcher;
import java.util.regex.Pattern;

/** The face of the class is the document's, and nothing else of it can be seen. */
public final class FaceTest {
    private static final String[] METHODS = {
        "int node()", "int arc(int,int,int)", "int weigh(int,int)", "boolean drop()", "long trees()",
        "long through(int)", "long rooted(int)", "long forests()", "long apart(int,int)",
        "long resistance(int,int,int)", "long tours()", "int drawn(long)", "long place(int)",
        "int ring(int,int)", "long group(int)", "long chips(int,int)", "long level(int)",
        "long settle(int)", "long fired(int)", "int recurrent(int)",
        "long point(long,long) throws java.lang.IllegalStateException", "int told(int)", "void clear()",
    };

    private static final Pattern WRITTEN = Pattern.compile("    public (\\w+ \\w+)\\(([^)]*)\\)(?: throws (\\w+))?;");

    public static void main(String[] args) throws IOException {
        Check check = new Check();
        Set<String> wanted = new TreeSet<>(Set.of(METHODS));
        Set<String> written = writtenMethods();
        check.holds("the document's methods are " + wanted + ", found " + written, wanted.equals(written));
        Set<String> found = new TreeSet<>();
        Set<String> publicNames = new TreeSet<>();
        for (Method method : TreeCounts.class.getDeclaredMethods()) {
            if (!Modifier.isPrivate(method.getModifiers())) {
                found.add(method.toGenericString().replace("public ", "").replace("TreeCounts.", ""));
                publicNames.add(method.getName());
            }
        }
        check.holds("the methods are " + wanted + ", found " + found, wanted.equals(found));
        for (Field field : TreeCounts.class.getDeclaredFields()) {
            boolean isNone = field.getName().equals("NONE");
            check.holds("field " + field, isNone != Modifier.isPrivate(field.getModifiers()));
            check.holds("final " + field, Modifier.isFinal(field.getModifiers()) || !Modifier.isStatic(field.getModifiers()));
        }
        Constructor<?>[] constructors = TreeCounts.class.getDeclaredConstructors();
        check.holds("one constructor without parameters, public",
            constructors.length == 1 && constructors[0].getParameterCount() == 0 && Modifier.isPublic(constructors[0].getModifiers()));
        check.holds("the class is final and public", Modifier.isFinal(TreeCounts.class.getModifiers()) && Modifier.isPublic(TreeCounts.class.getModifiers()));
        askPrivateNames(check, TreeCounts.class, publicNames);
        for (Class<?> inner : TreeCounts.class.getDeclaredClasses()) {
            boolean hidden = !Modifier.isPublic(inner.getModifiers()) && !Modifier.isProtected(inner.getModifiers());
            check.holds("static and hidden " + inner, Modifier.isStatic(inner.getModifiers()) && hidden);
            askPrivateNames(check, inner, publicNames);
        }
        check.due("NONE", TreeCounts.NONE, -1);
        check.end();
    }

    /** The methods of the document's face, without the names of their parameters. */
    private static Set<String> writtenMethods() throws IOException {
        Set<String> written = new TreeSet<>();
        for (String line : Files.readAllLines(Path.of("../shared/DOC.md"))) {
            Matcher method = WRITTEN.matcher(line);
            if (method.matches()) {
                String types = method.group(2).replaceAll(" \\w+(, |$)", "$1").replace(", ", ",");
                String thrown = method.group(3) == null ? "" : " throws java.lang." + method.group(3);
                written.add(method.group(1) + "(" + types + ")" + thrown);
            }
        }
        return written;
    }

    private static void askPrivateNames(Check check, Class<?> owner, Set<String> publicNames) {
        for (Method method : owner.getDeclaredMethods()) {
            boolean clash = Modifier.isPrivate(method.getModifiers()) && publicNames.contains(method.getName());
            check.holds("no private method bears a name of the face: " + method, !clash);
        }
    }
}
