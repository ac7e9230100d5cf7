import java.io.IOException;
import java.nio.file.Files;
import java.nio.file.Path;
import java.util.Map;
import java.util.Set;
import java.util.TreeMap;
import java.util.TreeSet;
import java.util.regex.MatchResult;
import java.util.regex.Matcher;
import java.util.regex.Pattern;

/** Rules of LANGUAGE.md that can be seen in the source; its path is the first argument. */
public final class LanguageTest {
    private static final Due due = new Due();
    private static final int MOST_LINES = 60, MOST_PARAMETERS = 7, MOST_DEEP = 8;
    /** Some of these the rules allow within bounds (while, a division); the class does without them. */
    private static final String[] NEVER = {
        "->", "::", "\\bsynchronized\\b", "\\bassert\\b", "\\bfinally\\b", "\\bgoto\\b", "\\bnative\\b", "\\bvolatile\\b",
        "\\bThrowable\\b", "\\bException\\b", "\\bError\\b", "\\bRuntimeException\\b", "\\bArrayIndexOutOfBoundsException\\b",
        "\\bNullPointerException\\b", "\\bArithmeticException\\b", "\\bClassCastException\\b",
        "\\bNegativeArraySizeException\\b", "\\bArrayStoreException\\b", "\\bIndexOutOfBoundsException\\b", "getMessage",
        "printStackTrace", "\\bSystem\\.(?!arraycopy\\b)", "\\bMath\\.(?!min\\b)", "\\bArrays\\.(?!fill\\b)", "\\bThread\\b",
        "\\bRandom\\b", "\\bjava\\.(?!util\\.Arrays;)", "\\bstatic \\{", "\\bdouble\\b", "\\bfloat\\b", "\\bpackage\\b",
        "\\bprotected\\b", "\\bwhile\\b", "\\bdo \\{", " / ", " % ", "/=", "%=", "\\bObject\\b", "hashCode", "toString",
    };
    /** Rule 9: a counter against a bound, in the loop's own line. */
    private static final Pattern COUNTED = Pattern.compile(
            "for \\(int (\\w+) = [\\w. -]+; (?:\\1 <=? [\\w.\\[\\]* ]+(?: && [^;]+)?; \\1\\+\\+|\\1 >= 0; \\1--)\\) \\{");
    private static final Pattern METHOD = Pattern.compile(
            "\n( +)(?:(?:public|private|static|final) )*(\\w+ |\\w+\\[\\] )?(\\w+)\\(([^)]*)\\)(?: throws [\\w, ]+)? \\{\n");

    public static void main(String[] args) throws IOException {
        String source = Files.readString(Path.of(args.length > 0 ? args[0] : "src/main/java/DriverBook.java"));
        String bare = source.replaceAll("(?s)/\\*.*?\\*/", "").replaceAll("//[^\n]*", "").replaceAll("\"[^\"\n]*\"", "\"\"");
        for (String never : NEVER) {
            due.is("uses of " + never, count(bare, never), 0);
        }
        due.is("signs beyond 126", source.chars().filter(c -> c > 126).count(), 0);
        loops(bare);
        Map<String, String> bodies = methods(bare);
        exceptions(bare, bodies);
        objects(bodies);
        depth(bodies);
        due.end("LanguageTest");
    }

    private static long count(String text, String pattern) {
        return Pattern.compile(pattern).matcher(text).results().count();
    }

    private static void loops(String bare) {
        Matcher loop = Pattern.compile("for \\(.*").matcher(bare);
        int seen = 0;
        while (loop.find()) {
            seen++;
            due.is("its end can be seen: " + loop.group(), COUNTED.matcher(loop.group()).matches() ? 1 : 0, 1);
        }
        due.is("loops were found", seen > 20 ? 1 : 0, 1);
    }

    /** The methods' bodies by name, those of one name together; a constructor is named like its class. */
    private static Map<String, String> methods(String bare) {
        Map<String, String> bodies = new TreeMap<>();
        Matcher m = METHOD.matcher(bare);
        int seen = 0;
        for (int from = 0; m.find(from); from = m.end() - 1) {
            if (m.group(3).matches("if|for|switch|catch")) {
                continue;
            }
            seen++;
            String body = bare.substring(m.end(), bare.indexOf("\n" + m.group(1) + "}\n", m.end() - 1) + 1);
            bodies.merge(m.group(3), body, String::concat);
            due.is(m.group(3) + " is short", count(body, "\n") + 2 <= MOST_LINES ? 1 : 0, 1);
            int parameters = m.group(4).isBlank() ? 0 : m.group(4).split(",").length;
            due.is(m.group(3) + " takes at most seven parameters", parameters <= MOST_PARAMETERS ? 1 : 0, 1);
        }
        due.is("methods were found", seen > 90 ? 1 : 0, 1);
        return bodies;
    }

    /** Rule 6. */
    private static void exceptions(String bare, Map<String, String> bodies) {
        Set<String> throwers = new TreeSet<>();
        Set<String> catchers = new TreeSet<>();
        for (Map.Entry<String, String> m : bodies.entrySet()) {
            if (count(m.getValue(), "\\bthrow\\b") > 0) {
                throwers.add(m.getKey());
            }
            if (count(m.getValue(), "\\bcatch\\b|\\btry\\b") > 0) {
                catchers.add(m.getKey());
            }
        }
        due.is("only these throw, no constructor among them: " + throwers, throwers.equals(Set.of("at", "throwFailure")) ? 1 : 0, 1);
        due.is("only this one catches, and throws nothing itself: " + catchers, catchers.equals(Set.of("toss")) ? 1 : 0, 1);
        due.is("what is thrown has a written text",
                count(bare, "\\bthrow\\b") - count(bare, "throw new Illegal(?:State|Argument)Exception\\(\"\"\\);"), 0);
        due.is("what is caught is what code throws", count(bare, "catch \\((?!IllegalStateException failure\\))"), 0);
        due.is("and is left alone", count(bare, "\\bfailure\\b"), 1);
    }

    /** Rule 12 and the one room: objects and arrays are made with the object alone, but for what is thrown. */
    private static void objects(Map<String, String> bodies) {
        for (Map.Entry<String, String> m : bodies.entrySet()) {
            boolean constructor = Character.isUpperCase(m.getKey().charAt(0));
            due.is(m.getKey() + " makes no object", constructor ? 0 : count(m.getValue(), "(?<!throw )\\bnew\\b|\\.clone\\("), 0);
        }
    }

    /** Rules 8 and 11: no recursion, calls at most eight deep. Methods of one name are taken as one, so it may only tell too much. */
    private static void depth(Map<String, String> bodies) {
        Map<String, Set<String>> calls = new TreeMap<>();
        for (Map.Entry<String, String> m : bodies.entrySet()) {
            Set<String> called = new TreeSet<>();
            Pattern.compile("(?<!new )\\b(\\w+)\\(").matcher(m.getValue()).results().map((MatchResult r) -> r.group(1))
                    .filter(bodies::containsKey).forEach(called::add);
            calls.put(m.getKey(), called);
        }
        int deepest = 0;
        for (String name : calls.keySet()) {
            deepest = Math.max(deepest, depthOf(name, calls, 1));
        }
        due.is("the deepest call: " + deepest, deepest <= MOST_DEEP ? 1 : 0, 1);
        due.is("calls were found", deepest >= 3 ? 1 : 0, 1);
    }

    private static int depthOf(String name, Map<String, Set<String>> calls, int above) {
        int deepest = above;
        if (above > MOST_DEEP) {
            return deepest;
        }
        for (String called : calls.get(name)) {
            deepest = Math.max(deepest, depthOf(called, calls, above + 1));
        }
        return deepest;
    }
}
