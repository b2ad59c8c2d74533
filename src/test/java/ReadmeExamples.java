import java.io.IOException;
import java.lang.reflect.Method;
import java.lang.reflect.Modifier;
import java.nio.file.Files;
import java.nio.file.Path;
import java.util.Set;
import java.util.TreeSet;
import java.util.regex.Matcher;
import java.util.regex.Pattern;

/**
 * Writes a program of the README's blocks of Java, in which the answer of each example is
 * compared with the one that the README shows: .ci/run compiles it and runs it.
 */
public final class ReadmeExamples {
    private static final Pattern EXAMPLE =
        Pattern.compile("(x\\.(\\w+)\\(.*?\\));\\s+// (-?\\d+|[A-Z]+)(:? .*)?");
    private static final Pattern CONSTANT =
        Pattern.compile("\\b(BAD|STATE|FULL|NONE|NO)`?\\s+\\((-?\\d+)\\)");
    private static final Set<String> CONSTANTS = Set.of("BAD", "STATE", "FULL", "NONE", "NO");

    private final Set<String> shown = new TreeSet<>();
    private final StringBuilder members = new StringBuilder();
    private final StringBuilder main = new StringBuilder();
    private int blocks = 0;

    public static void main(String[] args) throws IOException {
        String readme = Files.readString(Path.of(args[0]));
        ReadmeExamples examples = new ReadmeExamples();
        examples.readBlocks(readme.split("\n", -1));
        examples.readConstants(readme);
        examples.lacksNothing();
        Files.writeString(Path.of(args[1]), examples.program());
    }

    private void readBlocks(String[] lines) {
        int begin = -1;
        for (int i = 0; i < lines.length; i++) {
            if (lines[i].startsWith("```") && begin >= 0) {
                readBlock(lines, begin, i);
                begin = -1;
            } else if (lines[i].equals("```java")) {
                begin = i + 1;
            }
        }
        demand(begin < 0, "a block of Java has no end");
    }

    // A block that begins with static is for all others; any other stands for itself.
    private void readBlock(String[] lines, int begin, int end) {
        boolean forAll = lines[begin].startsWith("static ");
        if (!forAll) {
            blocks++;
            members.append("static void block").append(blocks).append("() {\n");
            main.append("block").append(blocks).append("();\n");
        }
        for (int i = begin; i < end; i++) {
            members.append(forAll ? lines[i] : checked(lines[i], i + 1)).append('\n');
        }
        members.append(forAll ? "" : "}\n");
    }

    private String checked(String line, int number) {
        Matcher example = EXAMPLE.matcher(line);
        if (!example.matches()) {
            demand(!line.startsWith("x."), "line " + number + " shows no answer: " + line);
            return line;
        }
        shown.add(example.group(2));
        return due("line " + number + ": " + example.group(1), example.group(1), example.group(3));
    }

    private void readConstants(String readme) {
        Matcher constant = CONSTANT.matcher(readme);
        while (constant.find()) {
            String name = constant.group(1);
            shown.add(name);
            main.append(due(name, "CarriedOne." + name, constant.group(2))).append('\n');
        }
    }

    private static String due(String what, String got, String answer) {
        String want = CONSTANTS.contains(answer) ? "CarriedOne." + answer : answer + "L";
        return "check.due(\"" + what.replace("\"", "\\\"") + "\", " + got + ", " + want + ");";
    }

    private void lacksNothing() {
        for (Method method : CarriedOne.class.getDeclaredMethods()) {
            boolean open = Modifier.isPublic(method.getModifiers());
            demand(!open || shown.contains(method.getName()), "no example of " + method);
        }
        for (String name : CONSTANTS) {
            demand(shown.contains(name), "no number of " + name);
        }
    }

    private String program() {
        return "public final class ReadmeRuns {\n"
            + "static final Check check = new Check(\"README.md\");\n"
            + members
            + "public static void main(String[] args) {\n" + main + "check.end();\n}\n}\n";
    }

    private static void demand(boolean so, String what) {
        if (!so) {
            System.out.println("README.md: " + what);
            System.exit(1);
        }
    }
}
