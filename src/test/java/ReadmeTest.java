import java.io.IOException;
import java.lang.reflect.Field;
import java.lang.reflect.InvocationTargetException;
import java.lang.reflect.Method;
import java.lang.reflect.Modifier;
import java.nio.file.Files;
import java.nio.file.Path;
import java.util.HashMap;
import java.util.Map;
import java.util.Set;
import java.util.TreeMap;
import java.util.TreeSet;
import java.util.regex.Matcher;
import java.util.regex.Pattern;
import java.util.stream.Stream;

/** That README.md is true of the code: its examples, its table of refusals, the calls and the tests that it names. */
public final class ReadmeTest {
    private static final Due due = new Due();
    private static final int MOST_CALLS = 400;
    private static final int[] NUMBERS = {-1, 0, 1, 2, 3, 5, 7, 65};

    public static void main(String[] args) throws ReflectiveOperationException, IOException {
        String page = Files.readString(Path.of("README.md"));
        examples(page);
        refusals(page);
        calls(page);
        tests(page);
        due.end("ReadmeTest");
    }

    /** Each line of a java block is a call with its answer at the head of the comment. */
    private static void examples(String page) throws ReflectiveOperationException {
        Matcher block = Pattern.compile("(?s)```java\n(.*?)```").matcher(page);
        int blocks = 0;
        while (block.find()) {
            blocks++;
            String[] lines = block.group(1).split("\n");
            due.is("a block begins with a new object", lines[0].equals("DriverBook x = new DriverBook();") ? 1 : 0, 1);
            example(lines);
        }
        due.is("blocks", blocks, 2);
    }

    private static void example(String[] lines) throws ReflectiveOperationException {
        DriverBook x = new DriverBook();
        Map<String, Integer> names = new HashMap<>();
        Pattern call = Pattern.compile("(?:int (\\w+) = )?x\\.(\\w+)\\(([^)]*)\\); +// (-?\\d+)\\b.*");
        for (int k = 1; k < lines.length; k++) {
            Matcher m = call.matcher(lines[k]);
            if (!m.matches()) {
                due.is("no call: " + lines[k], 0, 1);
                continue;
            }
            int got = answer(x, m.group(2), numbers(m.group(3), names));
            due.is(lines[k], got, Integer.parseInt(m.group(4)));
            constantOf(lines[k], got);
            if (m.group(1) != null) {
                names.put(m.group(1), got);
            }
        }
    }

    /** A refusal that the comment names is the one of that number. */
    private static void constantOf(String line, int got) throws ReflectiveOperationException {
        Matcher m = Pattern.compile("// -\\d+ ([A-Z]+)").matcher(line);
        if (m.find()) {
            due.is(line, got, DriverBook.class.getField(m.group(1)).getInt(null));
        }
    }

    private static int[] numbers(String text, Map<String, Integer> names) {
        if (text.isEmpty()) {
            return new int[0];
        }
        return Stream.of(text.split(", ")).mapToInt(a -> names.containsKey(a) ? names.get(a) : Integer.parseInt(a)).toArray();
    }

    private static Method method(String name) {
        for (Method m : DriverBook.class.getDeclaredMethods()) {
            if (m.getName().equals(name) && Modifier.isPublic(m.getModifiers())) {
                return m;
            }
        }
        throw new IllegalArgumentException(name);
    }

    private static int answer(DriverBook x, String name, int[] numbers) throws ReflectiveOperationException {
        Method m = method(name);
        Object[] values = new Object[numbers.length];
        for (int k = 0; k < numbers.length; k++) {
            values[k] = m.getParameterTypes()[k] == long.class ? (Object) (long) numbers[k] : (Object) numbers[k];
        }
        return ((Number) m.invoke(x, values)).intValue();
    }

    /** The table's numbers, and who answers what: seen by many calls on objects that hold something of everything. */
    private static void refusals(String page) throws ReflectiveOperationException {
        Map<String, Set<String>> told = new TreeMap<>();
        Matcher row = Pattern.compile("\n\\| `([A-Z]+)` \\| (-\\d+) \\| [^|]* \\| ([^|]*) \\|").matcher(page);
        while (row.find()) {
            due.is(row.group(1), Integer.parseInt(row.group(2)), DriverBook.class.getField(row.group(1)).getInt(null));
            Set<String> who = new TreeSet<>();
            Matcher name = Pattern.compile("`(\\w+)`").matcher(row.group(3));
            while (name.find()) {
                who.add(name.group(1));
            }
            told.put(row.group(1), row.group(3).startsWith("every call but") ? allBut(who) : who);
        }
        Map<String, Set<String>> seen = seenRefusals();
        due.is("rows of the table: " + told.keySet() + ", constants: " + seen.keySet(), told.keySet().equals(seen.keySet()) ? 1 : 0, 1);
        for (String constant : told.keySet()) {
            Set<String> who = seen.getOrDefault(constant, Set.of());
            due.is(constant + " is told of " + told.get(constant) + ", seen of " + who, told.get(constant).equals(who) ? 1 : 0, 1);
        }
    }

    private static Set<String> allCalls() {
        Set<String> names = new TreeSet<>();
        for (Method m : DriverBook.class.getDeclaredMethods()) {
            if (Modifier.isPublic(m.getModifiers())) {
                names.add(m.getName());
            }
        }
        return names;
    }

    private static Set<String> allBut(Set<String> names) {
        Set<String> others = allCalls();
        due.is("those are calls: " + names, others.containsAll(names) ? 1 : 0, 1);
        others.removeAll(names);
        return others;
    }

    private static Map<String, Set<String>> seenRefusals() throws ReflectiveOperationException {
        Map<String, Set<String>> seen = new TreeMap<>();
        Map<Integer, String> constants = new HashMap<>();
        for (Field f : DriverBook.class.getFields()) {
            constants.put(f.getInt(null), f.getName());
            seen.put(f.getName(), new TreeSet<>());
        }
        Twins.Scene[] scenes = {Scenes::rich, Scenes::full, ReadmeTest::older};
        for (String name : allCalls()) {
            for (Twins.Scene scene : scenes) {
                for (int answer : negatives(scene, name)) {
                    // a part that isn't there, as the page says
                    if (answer != -2 || !(name.equals("op") || name.equals("why"))) {
                        due.is(name + " answers a refusal: " + answer, constants.containsKey(answer) ? 1 : 0, 1);
                        seen.getOrDefault(constants.get(answer), new TreeSet<>()).add(name);
                    }
                }
            }
        }
        return seen;
    }

    /** TAPE 5 holds an IMAGE that is too old, TAPE 0 one without BREAKS. */
    private static DriverBook older() {
        DriverBook x = Scenes.rich();
        x.period(5, 9);
        x.image(0);
        return x;
    }

    private static Set<Integer> negatives(Twins.Scene scene, String name) throws ReflectiveOperationException {
        Set<Integer> seen = new TreeSet<>();
        int[] numbers = new int[method(name).getParameterCount()];
        int turns = (int) Math.pow(NUMBERS.length, numbers.length);
        DriverBook x = scene.make();
        for (int turn = 0; turn < turns; turn++) {
            if (turn % MOST_CALLS == MOST_CALLS - 1) {
                x = scene.make();
            }
            for (int k = 0, left = turn; k < numbers.length; k++, left /= NUMBERS.length) {
                numbers[k] = NUMBERS[left % NUMBERS.length];
            }
            try {
                int answer = answer(x, name, numbers);
                if (answer < 0) {
                    seen.add(answer);
                }
            } catch (InvocationTargetException thrown) {
                boolean isDue = thrown.getCause() instanceof IllegalArgumentException
                        || thrown.getCause() instanceof IllegalStateException;
                due.is(name + " throws", name.equals("at") && isDue ? 1 : 0, 1);
            }
        }
        return seen;
    }

    /** Each call of the face stands in the list of calls, with as many parameters as it has. */
    private static void calls(String page) {
        String list = page.substring(page.indexOf("## Use"), page.indexOf("### An example"));
        for (String name : allCalls()) {
            Matcher m = Pattern.compile("`" + name + "\\(([^)]*)\\)").matcher(list);
            boolean found = m.find();
            due.is(name + " is named", found ? 1 : 0, 1);
            if (found) {
                int parameters = m.group(1).isEmpty() ? 0 : m.group(1).split(", ").length;
                due.is("parameters of " + name, parameters, method(name).getParameterCount());
            }
        }
    }

    /** The tests that the page names are those that there are. */
    private static void tests(String page) throws IOException {
        Set<String> named = new TreeSet<>();
        Matcher m = Pattern.compile("`(\\w+Test)`").matcher(page);
        while (m.find()) {
            named.add(m.group(1));
        }
        Set<String> there = new TreeSet<>();
        try (Stream<Path> files = Files.list(Path.of("src/test/java"))) {
            files.map(f -> f.getFileName().toString()).filter(f -> f.endsWith("Test.java"))
                    .forEach(f -> there.add(f.substring(0, f.length() - ".java".length())));
        }
        due.is("tests named: " + named + ", there: " + there, named.equals(there) ? 1 : 0, 1);
    }
}
