import java.io.IOException;
import java.lang.reflect.Field;
import java.lang.reflect.Method;
import java.lang.reflect.Modifier;
import java.nio.charset.StandardCharsets;
import java.nio.file.Files;
import java.nio.file.Path;
import java.util.Set;
import java.util.TreeSet;

/** The face as the document has it, and of LANGUAGE.md what can be seen from outside. */
public final class FaceTest {
    private static final Check check = new Check("FaceTest");
    private static final String[] METHODS = {"int type(int)", "int clear()", "int books()",
        "int book(int,int)", "int forgets(int,int)", "int rights(int)", "int puts(int)",
        "int lays(int,int,int)", "int traps(int,int)", "int day()", "int undo()", "int now(int)",
        "int inDays(int)", "int round(int)", "int from(int,int)", "int lure(int,int,int)",
        "int cut(int)", "int odds(int,int,int,int)", "int saw(int,int,int)", "int forget()",
        "int fits()", "int hidden(int,int)", "int why(int)", "int proofs(int)", "int mark(int,int)",
        "int keep(int)", "int back(int)", "int count(int)", "long trace()"};
    private static final String[] FIELDS = {"BAD", "STATE", "FULL", "NONE", "NO"};

    public static void main(String[] args) throws IOException {
        methods();
        fields();
        classes();
        if (args.length > 0) source(Files.readString(Path.of(args[0]), StandardCharsets.UTF_8));
        check.end();
    }

    private static void methods() {
        Set<String> open = new TreeSet<>();
        Set<String> names = new TreeSet<>();
        for (Method m : CarriedOne.class.getDeclaredMethods()) {
            if (Modifier.isPrivate(m.getModifiers())) continue;
            StringBuilder s = new StringBuilder(m.getReturnType() + " " + m.getName() + "(");
            for (Class<?> p : m.getParameterTypes()) s.append(s.charAt(s.length() - 1) == '(' ? "" : ",").append(p);
            open.add(s.append(")").toString());
            names.add(m.getName());
            check.holds(m + " is public and bound to an object", m.getModifiers() == Modifier.PUBLIC);
        }
        check.holds("the methods of the face and no others: " + open, open.equals(Set.of(METHODS)));
        for (Class<?> c : CarriedOne.class.getDeclaredClasses()) {
            for (Method m : c.getDeclaredMethods()) check.holds(m + " has a name of its own", !names.contains(m.getName()));
        }
        for (Method m : CarriedOne.class.getDeclaredMethods()) {
            boolean mine = Modifier.isPrivate(m.getModifiers());
            check.holds(m + " has a name of its own", !mine || !names.contains(m.getName()));
        }
        check.due("constructors", CarriedOne.class.getDeclaredConstructors().length, 1);
        check.due("public constructors", CarriedOne.class.getConstructors().length, 1);
        check.holds("public and final", CarriedOne.class.getModifiers() == (Modifier.PUBLIC | Modifier.FINAL));
    }

    private static void fields() {
        Set<String> open = new TreeSet<>();
        for (Field f : CarriedOne.class.getDeclaredFields()) {
            if (!Modifier.isPrivate(f.getModifiers())) open.add(f.getName());
            boolean fixed = !Modifier.isStatic(f.getModifiers()) || Modifier.isFinal(f.getModifiers());
            check.holds(f + " is final, if it is static", fixed);
        }
        check.holds("the constants of the face and no others: " + open, open.equals(Set.of(FIELDS)));
    }

    private static void classes() {
        Class<?>[] inside = CarriedOne.class.getDeclaredClasses();
        check.holds("some twelve classes", inside.length < 12);
        for (Class<?> c : inside) {
            check.holds(c + " is static", Modifier.isStatic(c.getModifiers()));
            check.holds(c + " is not public", !Modifier.isPublic(c.getModifiers()));
        }
    }

    private static void source(String text) {
        String code = text.replaceAll("(?s)/\\*.*?\\*/", " ").replaceAll("//[^\n]*", " ");
        for (String word : new String[] {"throw", "throws", "try", "catch", "finally", "synchronized",
            "assert", "import", "package", "hashCode", "toString", "instanceof", "var", "Random",
            "System\\.(?!arraycopy)\\w+", "\\w+Exact", "Thread", "protected", "volatile", "transient"}) {
            check.holds("no " + word, !java.util.regex.Pattern.compile("\\b" + word + "\\b").matcher(code).find());
        }
        for (String sign : new String[] {"->", "::", "@", "\"\"\""}) check.holds("no " + sign, !code.contains(sign));
        check.holds("signs 1 to 127", text.chars().allMatch(c -> c >= 1 && c <= 127));
        shortMethods(text);
    }

    private static void shortMethods(String text) {
        int since = 0;
        for (String line : text.split("\n")) {
            if (line.matches("( {4}| {8})(public|private) .*\\) \\{")) since = 0;
            since++;
            if (line.matches("( {4}| {8})\\}")) {
                check.holds("a method has " + since + " lines", since <= 60);
                since = 0;
            }
        }
    }
}
