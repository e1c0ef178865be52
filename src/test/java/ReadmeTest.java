import java.io.File;
import java.io.IOException;
import java.lang.reflect.Field;
import java.lang.reflect.Method;
import java.lang.reflect.Modifier;
import java.nio.file.Files;
import java.nio.file.Path;
import java.util.ArrayList;
import java.util.HashMap;
import java.util.List;
import java.util.Map;
import java.util.TreeSet;
import java.util.regex.Matcher;
import java.util.regex.Pattern;

/**
 * README.md says what is so. Its calls are read from the file and made, so that a call and what is
 * said of it can not be changed one without the other. It is run from the project's directory.
 */
public final class ReadmeTest extends Cases {
    private static final Pattern MAKES =
            Pattern.compile("PathRunner r = new PathRunner\\((-?\\d+)\\);(\\s*//.*)?");
    private static final Pattern CALLS =
            Pattern.compile("(?:(int|boolean) (\\w+) = )?r\\.(\\w+)\\(([^()]*)\\);\\s*// ([^\\s:]+)(: .*)?");
    private static final Pattern TABLE_ENTRY = Pattern.compile("(\\d+) ([A-Z]{2,})( A\\b)?");
    private static final Pattern QUOTED_NAME = Pattern.compile("`([A-Z]\\w+)`");

    public static void main(String[] args) throws IllegalAccessException {
        runAll(ReadmeTest.class);
    }

    static void callsAnswerWhatIsSaidOfThem() throws IOException, ReflectiveOperationException {
        TreeSet<String> called = new TreeSet<>();
        List<List<String>> blocks = blocks("java");
        due("blocks of calls", true, blocks.size() > 0);
        for (List<String> block : blocks) {
            makeCalls(block, called);
        }
        due("calls shown: " + called, true, called.equals(namesOfTheFace()));
    }

    /** A line that is neither a new object nor a call with its answer is wrong. */
    private static void makeCalls(List<String> block, TreeSet<String> called)
            throws ReflectiveOperationException {
        PathRunner r = null;
        Map<String, Integer> variables = new HashMap<>();
        for (String line : block) {
            Matcher makes = MAKES.matcher(line);
            Matcher calls = CALLS.matcher(line);
            if (makes.matches()) {
                r = new PathRunner(Integer.parseInt(makes.group(1)));
            } else if (r != null && calls.matches()) {
                Object got = makeCall(r, calls, variables);
                called.add(calls.group(3));
                due(line + " -- it answered " + got + ": as said", true,
                        calls.group(5).equals(written(got, calls.group(5))));
                if (calls.group(2) != null) {
                    due("type in " + line, true, got.getClass()
                            == ("int".equals(calls.group(1)) ? Integer.class : Boolean.class));
                    due("name in " + line, false, variables.containsKey(calls.group(2)));
                    variables.put(calls.group(2), got instanceof Integer ? (Integer) got : 0);
                }
            } else {
                due("a call with its answer: " + line, true, false);
            }
        }
    }

    private static Object makeCall(PathRunner r, Matcher call, Map<String, Integer> variables)
            throws ReflectiveOperationException {
        String[] written = call.group(4).isBlank() ? new String[0] : call.group(4).split(",");
        Class<?>[] types = new Class<?>[written.length];
        Object[] arguments = new Object[written.length];
        for (int i = 0; i < written.length; i++) {
            String one = written[i].trim();
            types[i] = int.class;
            arguments[i] = variables.containsKey(one) ? variables.get(one) : Integer.valueOf(one);
        }
        return PathRunner.class.getMethod(call.group(3), types).invoke(r, arguments);
    }

    /** An answer as README.md writes it: by its name, if a name is what is wanted. */
    private static String written(Object answer, String wanted) throws ReflectiveOperationException {
        if (List.of("NONE", "BAD", "STATE", "FULL").contains(wanted)) {
            int named = PathRunner.class.getField(wanted).getInt(null);
            return answer.equals(named) ? wanted : answer.toString();
        }
        return answer.toString();
    }

    static void tableHasTheOperations() throws IOException, ReflectiveOperationException {
        PathRunner r = new PathRunner(0);
        r.method(2);
        TreeSet<Integer> numbers = new TreeSet<>();
        for (List<String> block : blocks("text")) {
            for (String line : block) {
                Matcher entry = TABLE_ENTRY.matcher(line);
                while (entry.find()) {
                    int op = Integer.parseInt(entry.group(1));
                    numbers.add(op);
                    Field constant = Cases.class.getDeclaredField(entry.group(2));
                    due(entry.group(2), constant.getInt(null), op);
                    due(entry.group(2) + " looks at A", entry.group(3) != null,
                            r.operation(0, op, HIGH) == BAD);
                }
            }
        }
        due("operations in the table", 30, numbers.size());
    }

    static void answersBelowZeroAreNamed() throws IOException, ReflectiveOperationException {
        String text = String.join(" ", lines());
        for (String name : List.of("NONE", "BAD", "STATE", "FULL")) {
            int number = PathRunner.class.getField(name).getInt(null);
            due(name + " (" + number + ")", true, text.contains("`" + name + "` (" + number + ")"));
        }
    }

    static void listHasEveryTest() throws IOException {
        TreeSet<String> named = new TreeSet<>();
        for (String name : quotedNames("## Tests")) {
            if (name.endsWith("Test") && !name.equals("Test")) {
                named.add(name);
            }
        }
        TreeSet<String> there = new TreeSet<>();
        String[] files = new File("src/test/java").list();
        for (String file : files == null ? new String[0] : files) {
            if (file.endsWith("Test.java")) {
                there.add(file.substring(0, file.length() - ".java".length()));
            }
        }
        due("tests named " + named + ", there " + there, true, named.equals(there));
    }

    static void partsAreThose() throws IOException {
        TreeSet<String> there = new TreeSet<>();
        for (Class<?> inner : PathRunner.class.getDeclaredClasses()) {
            there.add(inner.getSimpleName());
        }
        TreeSet<String> named = quotedNames("## How it is built");
        due("classes named " + named + ", there " + there, true, named.equals(there));
    }

    private static TreeSet<String> namesOfTheFace() {
        TreeSet<String> names = new TreeSet<>();
        for (Method method : PathRunner.class.getDeclaredMethods()) {
            if (Modifier.isPublic(method.getModifiers())) {
                names.add(method.getName());
            }
        }
        return names;
    }

    private static List<String> lines() throws IOException {
        return Files.readAllLines(Path.of("README.md"));
    }

    /** The lines of each fenced block of a language. */
    private static List<List<String>> blocks(String language) throws IOException {
        List<List<String>> blocks = new ArrayList<>();
        List<String> open = null;
        for (String line : lines()) {
            if (open != null && line.equals("```")) {
                blocks.add(open);
                open = null;
            } else if (open != null) {
                open.add(line);
            } else if (line.equals("```" + language)) {
                open = new ArrayList<>();
            }
        }
        due("a block of " + language + " has no end", false, open != null);
        return blocks;
    }

    /** The names in backticks under a heading, that begin with a capital. */
    private static TreeSet<String> quotedNames(String heading) throws IOException {
        TreeSet<String> names = new TreeSet<>();
        boolean inside = false;
        for (String line : lines()) {
            if (line.startsWith("## ")) {
                inside = line.equals(heading);
            }
            Matcher quoted = QUOTED_NAME.matcher(line);
            while (inside && quoted.find()) {
                names.add(quoted.group(1));
            }
        }
        return names;
    }
}
