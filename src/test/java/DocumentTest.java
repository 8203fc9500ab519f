import java.io.IOException;
import java.lang.reflect.Method;
import java.lang.reflect.Modifier;
import java.nio.file.Files;
import java.nio.file.Path;
import java.util.ArrayList;
import java.util.Arrays;
import java.util.List;
import java.util.Set;
import java.util.TreeSet;
import java.util.regex.Matcher;
import java.util.regex.Pattern;

/** The tests stand on the document as it is: what they quote is in it, all of it is quoted, its face is the class's. */
public final class DocumentTest {
    private static final Path DOCUMENT = Path.of("../shared/DOC.md");
    private static final Path TESTS = Path.of("src/test/java");
    private static final int PROMISES = 28;

    private static final String TEXT = "\"((?:[^\"\\\\]|\\\\.)*)\"";
    private static final Pattern ONE_TEXT = Pattern.compile(TEXT);
    private static final Pattern QUOTE = Pattern.compile("CHECK\\.sentence\\(((?:\\s*\\+?\\s*" + TEXT + ")+)\\)");
    private static final Pattern IN_FACE = Pattern.compile("(?m)^ {4}public (?!static)([^;]*\\([^;]*);$");
    private static final Pattern PROMISE = Pattern.compile("## Promise (\\d+): ([^\n]+)\n\n`([^`]*)`: ");
    // What says nothing that a call could break: headings, fences, numbers of chapters, and what joins two quotes.
    private static final Pattern FRAME = Pattern.compile("## Terms|```(text)?|==== [2-5]\\.| and |[\\s.,:;]"
            + "|The constants: `NONE = -1`: None\\.|## Promise \\d+: (A new object|\\w+ `[^`]*`:)");

    private static final Check CHECK = new Check();

    public static void main(String[] args) throws IOException {
        String document = Files.readString(DOCUMENT);
        theFaceIsAsTold(document);
        thePromisesAreOfTheFace(document);
        allIsQuoted(document);
        CHECK.end();
    }

    private static void theFaceIsAsTold(String document) {
        Set<String> got = new TreeSet<>(List.of("WornLines()"));
        for (Method method : WornLines.class.getDeclaredMethods()) {
            if (Modifier.isPublic(method.getModifiers())) {
                got.add(method.toString().replace("public ", "").replace("WornLines.", "").replace("java.util.", ""));
            }
        }
        Set<String> told = new TreeSet<>();
        for (Matcher m = IN_FACE.matcher(document); m.find();) {
            told.add(withoutNames(m.group(1)));
        }
        System.out.print(got.equals(told) ? "" : "the face is " + got + "\n");
        CHECK.due("the face is as the document tells it", got.equals(told), true);
        CHECK.due("the constant", document.contains("    public static final int NONE = " + WornLines.NONE + ";\n"), true);
    }

    private static void thePromisesAreOfTheFace(String document) {
        Set<String> promised = new TreeSet<>();
        int promises = 0;
        for (Matcher m = PROMISE.matcher(document); m.find();) {
            promises++;
            CHECK.due("promise " + m.group(1), Long.parseLong(m.group(1)), promises);
            promised.add(m.group(3));
        }
        Set<String> face = new TreeSet<>();
        for (Matcher m = IN_FACE.matcher(document); m.find();) {
            face.add(m.group(1));
        }
        CHECK.due("promises", promises, PROMISES);
        CHECK.due("each call has its promise", promised.equals(face), true);
    }

    private static String withoutNames(String call) {
        return call.replaceAll("(int|long|boolean) \\w+(?=[,)])", "$1").replace(", ", ",");
    }

    private static void allIsQuoted(String document) throws IOException {
        String all = plain(document);
        boolean[] quoted = new boolean[all.length()];
        for (String quote : quotes()) {
            CHECK.due("the document has: " + quote, all.contains(quote), true);
            for (int at = all.indexOf(quote); at >= 0; at = all.indexOf(quote, at + 1)) {
                Arrays.fill(quoted, at, at + quote.length(), true);
            }
        }
        StringBuilder unquoted = new StringBuilder();
        for (int at = all.indexOf("## Terms"); at < all.indexOf("## Not promised"); at++) {
            unquoted.append(quoted[at] ? '\n' : all.charAt(at));
        }
        for (String stretch : unquoted.toString().split("\n+")) {
            String left = FRAME.matcher(stretch).replaceAll("");
            CHECK.due("all is quoted, also: " + left, left.isEmpty(), true);
        }
    }

    private static List<String> quotes() throws IOException {
        List<String> quotes = new ArrayList<>();
        try (var files = Files.newDirectoryStream(TESTS, "EdgesOf*Test.java")) {
            for (Path file : files) {
                for (Matcher m = QUOTE.matcher(Files.readString(file)); m.find();) {
                    StringBuilder words = new StringBuilder();
                    for (Matcher one = ONE_TEXT.matcher(m.group(1)); one.find();) {
                        words.append(one.group(1));
                    }
                    quotes.add(plain(words.toString()));
                }
            }
        }
        CHECK.due("there are quotes", quotes.isEmpty(), false);
        return quotes;
    }

    private static String plain(String text) {
        return text.replaceAll("\\s+", " ").strip();
    }
}
