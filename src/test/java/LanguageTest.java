import java.io.IOException;
import java.nio.file.Files;
import java.nio.file.Path;
import java.util.regex.Matcher;
import java.util.regex.Pattern;

/** Rules of LANGUAGE.md that can be seen in the source; its path is the first argument. */
public final class LanguageTest {
    private static final Due due = new Due();
    private static final String[] NEVER = {
        "->", "::", "\\bsynchronized\\b", "\\bassert\\b", "\\bfinally\\b", "\\bgoto\\b", "\\bnative\\b", "\\bvolatile\\b",
        "\\bThrowable\\b", "\\bException\\b", "\\bError\\b", "\\bRuntimeException\\b", "\\bArrayIndexOutOfBoundsException\\b",
        "\\bNullPointerException\\b", "\\bArithmeticException\\b", "\\bClassCastException\\b",
        "\\bNegativeArraySizeException\\b", "\\bArrayStoreException\\b", "\\bIndexOutOfBoundsException\\b", "getMessage",
        "printStackTrace", "\\bSystem\\.(?!arraycopy\\b)", "\\bMath\\.\\w*Exact", "\\bThread\\b", "\\bRandom\\b",
        "\\bjava\\.(?!util\\.Arrays;)", "\\bstatic \\{", "\\bdouble\\b", "\\bfloat\\b", "\\bpackage\\b", "\\bprotected\\b",
        "\\bwhile \\(true\\)", "for \\(;;\\)", " / ", " % ", "\\bObject\\b", "hashCode", "toString",
    };

    public static void main(String[] args) throws IOException {
        String source = Files.readString(Path.of(args.length > 0 ? args[0] : "src/main/java/DriverBook.java"));
        String bare = source.replaceAll("(?s)/\\*.*?\\*/", "").replaceAll("//[^\n]*", "").replaceAll("\"[^\"\n]*\"", "\"\"");
        for (String never : NEVER) {
            Matcher m = Pattern.compile(never).matcher(bare);
            due.is("uses of " + never, m.results().count(), 0);
        }
        due.is("signs beyond 126", source.chars().filter(c -> c > 126).count(), 0);
        methods(bare);
        due.end("LanguageTest");
    }

    private static void methods(String bare) {
        Matcher m = Pattern.compile("\n( +)(?:(?:public|private|static|final) )*(?:\\w+ )?(\\w+)\\(([^)]*)\\)(?: throws [\\w, ]+)? \\{\n").matcher(bare);
        int seen = 0;
        while (m.find()) {
            if (m.group(2).matches("if|for|switch|while|catch")) {
                continue;
            }
            seen++;
            int end = bare.indexOf("\n" + m.group(1) + "}\n", m.end() - 1);
            long lines = bare.substring(m.start() + 1, end).chars().filter(c -> c == '\n').count() + 2;
            due.is(m.group(2) + " is short", lines <= 60 ? 1 : 0, 1);
            int parameters = m.group(3).isBlank() ? 0 : m.group(3).split(",").length;
            due.is(m.group(2) + " takes at most seven parameters", parameters <= 7 ? 1 : 0, 1);
        }
        due.is("methods were found", seen > 36 ? 1 : 0, 1);
    }
}
