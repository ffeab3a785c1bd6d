import com.sun.management.ThreadMXBean;
import java.io.IOException;
import java.lang.management.ManagementFactory;
import java.lang.reflect.InvocationTargetException;
import java.lang.reflect.Method;
import java.lang.reflect.Modifier;
import java.nio.file.Files;
import java.nio.file.Path;
import java.util.HashMap;
import java.util.List;
import java.util.Map;
import java.util.Set;
import java.util.TreeSet;
import java.util.regex.Matcher;
import java.util.regex.Pattern;
import java.util.stream.Collectors;
import java.util.stream.Stream;

/** README.md: each call in its examples is made and answers as is shown; what it says of the tests holds. */
public final class ReadmeTest {
    private static final String MADE = "PutAwayAssign x = new PutAwayAssign();";
    /** [int name = ]x.call(arguments); [// comment] */
    private static final Pattern CALL =
            Pattern.compile("(?:(\\w+) (\\w+) = )?x\\.(\\w+)\\(([^()]*)\\);(?: +// (.+))?");
    /** An answer, or throws and an exception's name, before the words that say why. */
    private static final Pattern ANSWER = Pattern.compile("(-?\\d+|true|false|throws \\w+)(?:: .+)?");
    private static final Pattern TEST_ROW = Pattern.compile("\\| (\\w+Test) \\| .+ \\|");

    private static final Check check = new Check("ReadmeTest");
    private static final Set<String> shown = new TreeSet<>();

    private PutAwayAssign object;
    private final Map<String, Integer> names = new HashMap<>();

    public static void main(String[] args) throws IOException {
        List<String> lines = Files.readAllLines(Path.of("README.md"));
        examples(lines);
        everyCallIsShown();
        limitOfEntries();
        onlyEntriesMakeObjects();
        testsThatThereAre(lines);
        check.end();
    }

    private static void examples(List<String> lines) {
        check.sentence("README", "ReadmeTest makes these calls and asks for these answers");
        ReadmeTest example = null;
        for (int i = 0; i < lines.size(); i++) {
            String line = lines.get(i);
            if (line.startsWith("```")) {
                example = line.equals("```java") ? new ReadmeTest() : null;
            } else if (example != null) {
                example.follow("line " + (i + 1) + ", " + line, line);
            }
        }
    }

    private void follow(String where, String line) {
        Matcher call = CALL.matcher(line);
        if (line.equals(MADE) && object == null) {
            object = new PutAwayAssign();
        } else if (object != null && call.matches()) {
            make(where, call);
        } else {
            check.due(where, "not read", "a call");
        }
    }

    private void make(String where, Matcher call) {
        Method method = methodOf(call.group(3));
        if (method == null) {
            check.due(where, "no such method", "a call");
            return;
        }
        shown.add(method.getName());
        Object[] arguments = argumentsOf(method, call.group(4));
        if (arguments == null) {
            check.due(where, "arguments that do not suit", "a call");
            return;
        }
        String got = outcome(method, arguments);
        check.due(where, got, answerShown(call.group(5)));
        if (call.group(2) != null) {
            check.due(where + " has its type", call.group(1), method.getReturnType().getName());
            check.due(where + " has a new name", names.containsKey(call.group(2)), false);
            names.put(call.group(2), isNumber(got) ? Integer.parseInt(got) : -1);
        }
    }

    private static Method methodOf(String name) {
        for (Method method : PutAwayAssign.class.getDeclaredMethods()) {
            if (isOfTheFace(method) && method.getName().equals(name)) {
                return method;
            }
        }
        return null;
    }

    private static boolean isOfTheFace(Method method) {
        return Modifier.isPublic(method.getModifiers());
    }

    private static boolean isNumber(String text) {
        return text.matches("-?\\d+");
    }

    private Object[] argumentsOf(Method method, String text) {
        String[] words = text.isEmpty() ? new String[0] : text.split(", ");
        Class<?>[] types = method.getParameterTypes();
        if (words.length != types.length) {
            return null;
        }
        Object[] arguments = new Object[words.length];
        for (int i = 0; i < words.length; i++) {
            arguments[i] = types[i] == int.class ? number(words[i]) : truth(words[i]);
            if (arguments[i] == null) {
                return null;
            }
        }
        return arguments;
    }

    private Integer number(String word) {
        return isNumber(word) ? Integer.valueOf(word) : names.get(word);
    }

    private static Boolean truth(String word) {
        return word.equals("true") || word.equals("false") ? Boolean.valueOf(word) : null;
    }

    private String outcome(Method method, Object[] arguments) {
        try {
            Object answer = method.invoke(object, arguments);
            return method.getReturnType() == void.class ? "nothing" : String.valueOf(answer);
        } catch (InvocationTargetException e) {
            return "throws " + e.getCause().getClass().getSimpleName();
        } catch (IllegalAccessException e) {
            return "cannot be called";
        }
    }

    private static String answerShown(String comment) {
        Matcher answer = ANSWER.matcher(comment == null ? "" : comment);
        return answer.matches() ? answer.group(1) : "nothing";
    }

    private static void everyCallIsShown() {
        check.sentence("README", "How to use it");
        for (Method method : PutAwayAssign.class.getDeclaredMethods()) {
            if (isOfTheFace(method)) {
                check.due(method.getName() + " is shown", shown.contains(method.getName()), true);
            }
        }
    }

    private static void limitOfEntries() {
        check.sentence("README", "unit and place throw UnsupportedOperationException when there are 12");
        PutAwayAssign x = new PutAwayAssign();
        for (int n = 0; n < 12; n++) {
            check.due("unit " + n, x.unit(0, 1), n);
            check.due("place " + n, x.place(1, 0, 1, 0), n);
        }
        check.refused("a unit more", UnsupportedOperationException.class, () -> x.unit(0, 1));
        check.refused("a place more", UnsupportedOperationException.class, () -> x.place(1, 0, 1, 0));
    }

    private static void onlyEntriesMakeObjects() {
        check.sentence("README", "but for refusals, only unit and place make objects later");
        // Classes are loaded on their first use, which takes room that is not the object's.
        roomTakenBy(Made.with(8, 12, 1));
        check.due("room that 22 calls took", roomTakenBy(Made.with(8, 12, 1)), 0);
    }

    private static long roomTakenBy(PutAwayAssign x) {
        ThreadMXBean room = (ThreadMXBean) ManagementFactory.getThreadMXBean();
        long before = room.getCurrentThreadAllocatedBytes();
        x.weight(0, 2);
        x.fits(0, 0, false);
        x.cost(1, 1, 5);
        x.together(2, 3);
        x.fix(4, 4);
        x.limits(8, 50);
        x.assign(100000);
        x.limits(0, 50);
        x.assign(100000);
        x.at(0);
        x.exact();
        x.bound();
        x.barred(0);
        x.share(0);
        x.block(1);
        x.open(1);
        x.trip(7);
        x.put(2);
        x.told(0, 3);
        x.told(0, 0);
        x.count(2);
        x.count(3);
        return room.getCurrentThreadAllocatedBytes() - before;
    }

    private static void testsThatThereAre(List<String> lines) throws IOException {
        check.sentence("README", "It runs every *Test.java under src/test/java");
        Set<String> listed = new TreeSet<>();
        for (String line : lines) {
            Matcher row = TEST_ROW.matcher(line);
            if (row.matches()) {
                listed.add(row.group(1));
            }
        }
        try (Stream<Path> files = Files.list(Path.of("src/test/java"))) {
            Set<String> there = files.map(file -> file.getFileName().toString())
                    .filter(name -> name.endsWith("Test.java"))
                    .map(name -> name.substring(0, name.length() - ".java".length()))
                    .collect(Collectors.toCollection(TreeSet::new));
            check.due("the tests that are listed", listed.toString(), there.toString());
        }
        check.due(".ci/run is listed", lines.contains(".ci/run"), true);
        check.due(".ci/run can be run", Files.isExecutable(Path.of(".ci/run")), true);
    }
}
