import java.io.IOException;
import java.lang.reflect.Method;
import java.lang.reflect.Modifier;
import java.nio.file.Files;
import java.nio.file.Path;
import java.util.ArrayList;
import java.util.HashSet;
import java.util.List;
import java.util.Set;
import java.util.regex.Matcher;
import java.util.regex.Pattern;

/** Runs the examples of README.md, read from the page itself, and holds the answers against those told there. */
public final class ReadmeTest {
    private static final Path PAGE = Path.of("README.md");
    private static final Path SOURCE = Path.of("src/test/java/ReadmeTest.java");
    private static final String NEW_DESK = "WarabandiDesk desk = new WarabandiDesk();";
    private static final String HELPER = "static int tellText(";
    /** A call with the answer told behind it, perhaps put into a variable; and whether a line ends one. */
    private static final Pattern CALL = Pattern.compile(
            "(?:(?:int|long) \\w+ = )?(desk\\.\\w+|tellText)\\((.*)\\); +// (-?\\d+|NONE)(?:: .+)?");
    private static final Pattern CALL_END = Pattern.compile(".*\\); +// .*");
    private static final Pattern QUOTED = Pattern.compile("\"([^\"]*)\"");
    private static final int CALLS_PROMISED = 512;

    private WarabandiDesk desk;
    private int calls;
    private final Set<String> shown = new HashSet<>();

    public static void main(String[] args) throws Exception {
        Check.about("README.md");
        new ReadmeTest().runPage();
        Check.end();
    }

    static int tellText(WarabandiDesk desk, String text) {
        int[] ints = new int[(text.length() + 19) / 20 * 5];
        for (int k = 0; k < text.length(); k++) {
            ints[k / 4] |= (text.charAt(k) & 255) << (24 - k % 4 * 8);
        }
        for (int k = 0; k < ints.length; k += 5) {
            desk.feed(ints[k], ints[k + 1], ints[k + 2], ints[k + 3], ints[k + 4]);
        }
        return desk.tell(text.length());
    }

    private void runPage() throws Exception {
        int helpers = 0;
        for (List<String> block : javaBlocks()) {
            if (block.get(0).startsWith(HELPER)) {
                helpers++;
                Check.due("tellText told as it is run here (1)", isRunHere(block) ? 1 : 0, 1);
            } else {
                runBlock(block);
            }
        }
        Check.due("tellText told", helpers, 1);
        for (Method method : WarabandiDesk.class.getDeclaredMethods()) {
            if (Modifier.isPublic(method.getModifiers())) {
                Check.due("an example of " + method.getName() + " (1)", shown.contains(method.getName()) ? 1 : 0, 1);
            }
        }
    }

    /** The lines of each java block of the page. */
    private static List<List<String>> javaBlocks() throws IOException {
        List<List<String>> blocks = new ArrayList<>();
        List<String> block = null;
        for (String line : Files.readAllLines(PAGE)) {
            if (line.equals("```java")) {
                block = new ArrayList<>();
            } else if (line.equals("```") && block != null) {
                blocks.add(block);
                block = null;
            } else if (block != null) {
                block.add(line);
            }
        }
        return blocks;
    }

    /** Whether this file has the same lines, one step further in. */
    private static boolean isRunHere(List<String> block) throws IOException {
        StringBuilder told = new StringBuilder("\n");
        for (String line : block) {
            told.append("    ").append(line).append('\n');
        }
        return Files.readString(SOURCE).replace("\r", "").contains(told);
    }

    private void runBlock(List<String> block) throws Exception {
        String statement = "";
        for (String line : block) {
            statement = (statement + " " + line.strip()).strip();
            if (statement.equals(NEW_DESK)) {
                desk = new WarabandiDesk();
                calls = 0;
                statement = "";
            } else if (CALL_END.matcher(line).matches()) {
                runCall(statement);
                statement = "";
            }
        }
        Check.due("lines that tell no answer: " + statement, statement.length(), 0);
    }

    private void runCall(String statement) throws Exception {
        Matcher call = CALL.matcher(statement);
        if (!call.matches()) {
            Check.due("a call that can be run (1): " + statement, 0, 1);
            return;
        }
        long want = call.group(3).equals("NONE") ? WarabandiDesk.NONE : Long.parseLong(call.group(3));
        if (call.group(1).equals("tellText")) {
            String text = quotedIn(call.group(2));
            calls += text.length() / 20 + 2;
            Check.due(statement, tellText(desk, text), want);
        } else {
            calls++;
            Check.due(statement, answer(call.group(1).substring("desk.".length()), call.group(2)), want);
        }
        Check.due("within the calls that are promised (1): " + statement, calls <= CALLS_PROMISED ? 1 : 0, 1);
    }

    private static String quotedIn(String parts) {
        StringBuilder text = new StringBuilder();
        Matcher quoted = QUOTED.matcher(parts);
        while (quoted.find()) {
            text.append(quoted.group(1));
        }
        return text.toString();
    }

    private long answer(String name, String told) throws Exception {
        String[] parts = told.isEmpty() ? new String[0] : told.split(", ");
        for (Method method : WarabandiDesk.class.getDeclaredMethods()) {
            if (method.getName().equals(name) && method.getParameterCount() == parts.length) {
                shown.add(name);
                return ((Number) method.invoke(desk, arguments(method, parts))).longValue();
            }
        }
        throw new IllegalStateException("README.md shows a call that there is not: " + name + "(" + told + ")");
    }

    private static Object[] arguments(Method method, String[] parts) {
        Object[] values = new Object[parts.length];
        for (int k = 0; k < parts.length; k++) {
            if (method.getParameterTypes()[k] == boolean.class) {
                values[k] = Boolean.valueOf(parts[k]);
            } else if (parts[k].equals("WarabandiDesk.NONE")) {
                values[k] = WarabandiDesk.NONE;
            } else {
                values[k] = Integer.decode(parts[k]);
            }
        }
        return values;
    }
}
