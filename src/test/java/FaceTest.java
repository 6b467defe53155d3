import java.io.IOException;
import java.lang.reflect.Constructor;
import java.lang.reflect.Field;
import java.lang.reflect.Method;
import java.lang.reflect.Modifier;
import java.nio.file.Files;
import java.nio.file.Path;
import java.util.Arrays;
import java.util.Set;
import java.util.TreeSet;
import java.util.regex.Matcher;
import java.util.regex.Pattern;
import java.util.stream.Collectors;

/** The public face is that of the document, no more and no less, and the file keeps to the rules that can be seen from outside. */
public final class FaceTest {
    private static final Path SOURCE = Path.of("src/main/java/WarabandiDesk.java");
    private static final Pattern COMMENT = Pattern.compile("/\\*.*?\\*/|//[^\\n]*", Pattern.DOTALL);
    private static final Pattern REFUSED_WORD = Pattern.compile("\\b(throw|throws|try|catch|synchronized|assert|volatile|native)\\b");
    private static final int MOST_PARAMETERS = 7;
    /** The document's face, line by line. */
    private static final String FACE = """
            public static final int NONE = -1;
            public WarabandiDesk();
            public int feed(int a, int b, int c, int d, int e);
            public int tell(int n);
            public int fault(int what);
            public int move(int field, int place);
            public int swap(int week, int field, int other);
            public int lend(int week, int field, int other, int minutes);
            public int shut(int week, int from, int to);
            public int line(int reach);
            public int flow(int n);
            public int turn(int every, int by);
            public int mode(int n);
            public int land(int field, int n);
            public int undo();
            public int field(int field, int what);
            public int name(int field, int k);
            public int reach(int reach, int what);
            public int setting(int what);
            public int roster(int week, int place);
            public int inTurn(int week, int field, int what);
            public int net(int week);
            public int weight(int field);
            public int fails(int week);
            public int isVoid(int k);
            public long water(int week, int field);
            public long all(int week);
            public int at(int minute, int what);
            public int when(int field, int minute);
            public long depth(int week, int field);
            public int first(int week, boolean most);
            public int soil(int week, int field);
            public int dry(int week, int field, int what);
            public long tail(int week);
            public int leastFlow(int week);
            public int lining(int week);
            public int order(int place);
            public int even(int n, int what);
            public int partners(int week, int field);
            public int matched(int week, int field);
            public int nights(int from, int to, int field);
            public int soaked(int flow, int left, boolean most);
            public long fairest(int week);
            public int balance(int week, int field, int other);
            public int settles(int week);
            public int count(int what);
            """;

    private FaceTest() { }

    public static void main(String[] args) throws IOException {
        faceIsThatOfTheDocument();
        classesInsideKeepToThemselves();
        sourceKeepsToTheLanguage();
        Check.end();
    }

    private static void faceIsThatOfTheDocument() {
        Check.about("The public face");
        Check.due("modifiers of the class, public and final", WarabandiDesk.class.getModifiers(),
                Modifier.PUBLIC | Modifier.FINAL);
        Check.due("NONE", WarabandiDesk.NONE, -1);
        Set<String> told = toldFace();
        Set<String> open = openFace();
        for (String member : told) {
            Check.due("there is (1) " + member, open.contains(member) ? 1 : 0, 1);
        }
        for (String member : open) {
            Check.due("the document tells (1) " + member, told.contains(member) ? 1 : 0, 1);
        }
        Check.due("members of the document's face", told.size(), 46);
    }

    /** The lines of the document's face, without the names of parameters. */
    private static Set<String> toldFace() {
        Set<String> members = new TreeSet<>();
        for (String line : FACE.split("\n")) {
            members.add(line.replaceAll(" = .*", "").replaceAll("(int|long|boolean) \\w+(?=[,)])", "$1").replace(";", ""));
        }
        return members;
    }

    /** What of the class can be seen outside of it. */
    private static Set<String> openFace() {
        Set<String> members = new TreeSet<>();
        for (Constructor<?> made : WarabandiDesk.class.getDeclaredConstructors()) {
            members.add("public WarabandiDesk(" + names(made.getParameterTypes()) + ")");
        }
        for (Field field : WarabandiDesk.class.getDeclaredFields()) {
            if (!Modifier.isPrivate(field.getModifiers())) {
                members.add(Modifier.toString(field.getModifiers()) + " " + field.getType() + " " + field.getName());
            }
        }
        for (Method method : WarabandiDesk.class.getDeclaredMethods()) {
            if (!Modifier.isPrivate(method.getModifiers())) {
                members.add(Modifier.toString(method.getModifiers()) + " " + method.getReturnType() + " "
                        + method.getName() + "(" + names(method.getParameterTypes()) + ")");
            }
        }
        return members;
    }

    private static String names(Class<?>[] types) {
        return Arrays.stream(types).map(Class::getName).collect(Collectors.joining(", "));
    }

    private static void classesInsideKeepToThemselves() {
        Check.about("LANGUAGE.md, rules 1, 2, 5, 11");
        Set<String> open = new TreeSet<>();
        for (Method method : WarabandiDesk.class.getMethods()) {
            open.add(method.getName());
        }
        keepsToItself(WarabandiDesk.class, open);
        for (Class<?> inside : WarabandiDesk.class.getDeclaredClasses()) {
            int modifiers = inside.getModifiers();
            boolean isHidden = !Modifier.isPublic(modifiers) && !Modifier.isProtected(modifiers);
            Check.due("hidden and static (1): " + inside, isHidden && Modifier.isStatic(modifiers) ? 1 : 0, 1);
            keepsToItself(inside, open);
        }
        Check.due("at most twelve classes (1)", WarabandiDesk.class.getDeclaredClasses().length < 12 ? 1 : 0, 1);
    }

    private static void keepsToItself(Class<?> type, Set<String> open) {
        for (Method method : type.getDeclaredMethods()) {
            boolean isOfTheFace = type == WarabandiDesk.class && Modifier.isPublic(method.getModifiers());
            Check.due("a name of its own (1): " + method, isOfTheFace || !open.contains(method.getName()) ? 1 : 0, 1);
            Check.due("few parameters (1): " + method, method.getParameterCount() <= MOST_PARAMETERS ? 1 : 0, 1);
        }
        for (Field field : type.getDeclaredFields()) {
            int modifiers = field.getModifiers();
            Check.due("no static state (1): " + field, !Modifier.isStatic(modifiers) || Modifier.isFinal(modifiers) ? 1 : 0, 1);
        }
    }

    private static void sourceKeepsToTheLanguage() throws IOException {
        Check.about("LANGUAGE.md, rules 2, 4, 6");
        String code = COMMENT.matcher(Files.readString(SOURCE).replace("\r", "")).replaceAll("");
        Matcher refused = REFUSED_WORD.matcher(code);
        Check.due("words that are refused" + (refused.find() ? ": " + refused.group() : ""), refused.reset().results().count(), 0);
        Check.due("lambdas and method references", code.split("->|::", -1).length - 1, 0);
        for (String line : code.split("\n")) {
            boolean isImport = line.startsWith("import ");
            Check.due("an import that is listed (1): " + line, !isImport || line.equals("import java.util.Arrays;") ? 1 : 0, 1);
        }
        Check.due("a package line", code.lines().filter(line -> line.startsWith("package ")).count(), 0);
    }
}
