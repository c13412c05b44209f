import java.io.IOException;
import java.lang.reflect.InvocationTargetException;
import java.lang.reflect.Method;
import java.lang.reflect.Modifier;
import java.nio.file.Files;
import java.nio.file.Path;
import java.util.ArrayList;
import java.util.List;
import java.util.Set;
import java.util.TreeSet;
import java.util.regex.Matcher;
import java.util.regex.Pattern;

/** README.md: its examples answer as written there, and its calls and ranges are those of the class. */
public final class ReadmeTest {
    private static final Path README = Path.of("README.md");
    private static final Path DOCUMENT = Path.of("..", "shared", "DOC.md");

    private static final Pattern EXAMPLE = Pattern.compile("(?ms)^```java\\n(.*?)^```$");
    private static final Pattern ROW = Pattern.compile("(?m)^\\| `((?:\\w+ )?(\\w+)\\((.*?)\\))` \\| (.*?) ?\\|.*$");
    private static final Pattern RANGE = Pattern.compile("`(\\w+)` (?:any|(\\d+) to (\\d+))");

    public static void main(String[] args) throws Exception {
        Checks checks = new Checks();
        String readme = Files.readString(README);
        examplesAnswerAsWritten(checks, readme);
        examplesUseEveryCall(checks, readme);
        callsAreThoseOfTheFace(checks, readme);
        rangesAreThoseOfTheClass(checks, readme);
        checks.end();
    }

    private static void examplesAnswerAsWritten(Checks checks, String readme) throws Exception {
        int answers = 0;
        for (String example : examples(readme)) {
            for (String[] answer : ReadmeExample.run(example)) {
                answers++;
                checks.isTrue("README.md: " + answer[0] + " answered " + answer[1] + ", written there is " + answer[2],
                    answer[1].equals(answer[2]));
            }
        }
        checks.isTrue("README.md has examples", answers > 0);
    }

    private static List<String> examples(String readme) {
        List<String> examples = new ArrayList<>();
        Matcher example = EXAMPLE.matcher(readme);
        while (example.find()) {
            examples.add(example.group(1));
        }
        return examples;
    }

    private static void examplesUseEveryCall(Checks checks, String readme) {
        String all = String.join("", examples(readme));
        for (Method method : face()) {
            String name = method.getName();
            checks.isTrue("README.md has an example of " + name, all.contains("x." + name + "("));
        }
    }

    private static List<Method> face() {
        List<Method> face = new ArrayList<>();
        for (Method method : KeccakLanes.class.getDeclaredMethods()) {
            if (Modifier.isPublic(method.getModifiers())) {
                face.add(method);
            }
        }
        return face;
    }

    private static void callsAreThoseOfTheFace(Checks checks, String readme) throws IOException {
        String document = Files.readString(DOCUMENT);
        Set<String> told = new TreeSet<>();
        Matcher row = ROW.matcher(readme);
        while (row.find()) {
            told.add(row.group(2));
            checks.isTrue("the document has " + row.group(1), document.contains("    public " + row.group(1)));
        }
        Set<String> due = new TreeSet<>(Set.of("KeccakLanes"));
        for (Method method : face()) {
            due.add(method.getName());
        }
        checks.isTrue("README.md tells of " + due + ", told are " + told, told.equals(due));
    }

    private static void rangesAreThoseOfTheClass(Checks checks, String readme) throws IllegalAccessException {
        for (Method method : face()) {
            Matcher row = ROW.matcher(readme);
            while (row.find()) {
                if (row.group(2).equals(method.getName())) {
                    rangesOfOneCall(checks, method, row.group(3).split(", "), row.group(4));
                }
            }
        }
    }

    private static void rangesOfOneCall(Checks checks, Method method, String[] parameters, String ranges)
            throws IllegalAccessException {
        Matcher range = RANGE.matcher(ranges);
        int index = 0;
        while (range.find()) {
            String what = "README.md, " + method.getName() + ", " + range.group();
            checks.isTrue(what + " is told in its order", index < parameters.length
                && parameters[index].endsWith(" " + range.group(1)));
            rangeOfOneNumber(checks, what, method, index, range);
            index++;
        }
        checks.due("README.md, " + method.getName() + ": numbers with a range", index, parameters.length);
    }

    private static void rangeOfOneNumber(Checks checks, String what, Method method, int index, Matcher range)
            throws IllegalAccessException {
        if (range.group(2) == null) {
            checks.due(what + ": the smallest", refusals(method, index, Integer.MIN_VALUE), 0);
            checks.due(what + ": the largest", refusals(method, index, Integer.MAX_VALUE), 0);
            return;
        }
        int first = Integer.parseInt(range.group(2));
        int last = Integer.parseInt(range.group(3));
        checks.due(what + ": the first", refusals(method, index, first), 0);
        checks.due(what + ": the last", refusals(method, index, last), 0);
        checks.due(what + ": before the first", refusals(method, index, first - 1), 1);
        checks.due(what + ": behind the last", refusals(method, index, last + 1), 1);
    }

    /** The other numbers are 1. Answers 1 for IllegalArgumentException, 0 if nothing is thrown, -1 for all else. */
    private static int refusals(Method method, int index, int number) throws IllegalAccessException {
        Class<?>[] types = method.getParameterTypes();
        Object[] numbers = new Object[types.length];
        for (int i = 0; i < types.length; i++) {
            int value = i == index ? number : 1;
            if (types[i] == long.class) {
                numbers[i] = (long) value;
            } else {
                numbers[i] = value;
            }
        }
        try {
            method.invoke(new KeccakLanes(), numbers);
            return 0;
        } catch (InvocationTargetException e) {
            return e.getCause() instanceof IllegalArgumentException ? 1 : -1;
        }
    }
}
