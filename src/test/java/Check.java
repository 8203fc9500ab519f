import java.util.NoSuchElementException;
import java.util.function.IntSupplier;

/** What all tests of the project share: answers that are due, and texts fed to an object. */
final class Check {
    /** Stands for an answer that is a NoSuchElementException. */
    static final long THROWS = Long.MIN_VALUE;

    private int wrong = 0;
    private int asked = 0;
    private String sentence = "";

    /** The words of the document that the answers asked for from here on come from. */
    void sentence(String words) {
        sentence = words;
    }

    void due(String call, long got, long want) {
        asked++;
        if (got != want) {
            wrong++;
            System.out.println(call + " answered " + told(got) + ", due is " + told(want));
            if (!sentence.isEmpty()) {
                System.out.println("    by: " + sentence);
            }
        }
    }

    void due(String call, boolean got, boolean want) {
        due(call, got ? 1 : 0, want ? 1 : 0);
    }

    /** The text has a fault of this kind; an @ stands ahead of the wrong token and is taken out before feeding. */
    void fault(int kind, String marked) {
        int place = marked.indexOf('@');
        String text = marked.substring(0, place) + marked.substring(place + 1);
        due(marked, programme(new WornLines(), text), kind + 16L * place);
    }

    /** The text is a programme. */
    void fine(String text) {
        due(text, programme(new WornLines(), text), 0);
    }

    /** Ends the test: with exit code 1 if an answer was wrong. */
    void end() {
        System.out.println(asked + " answers, " + wrong + " wrong");
        if (wrong != 0) {
            System.exit(1);
        }
    }

    private static String told(long answer) {
        return answer == THROWS ? "throws.NoSuchElementException" : Long.toString(answer);
    }

    static long orThrows(IntSupplier call) {
        try {
            return call.getAsInt();
        } catch (NoSuchElementException e) {
            return THROWS;
        }
    }

    static long cell(WornLines x, int cell) {
        return orThrows(() -> x.cell(cell));
    }

    static long wrote(WornLines x, int i) {
        return orThrows(() -> x.wrote(i));
    }

    /** Feeds a text, 24 signs a call; the last call's answer. */
    static int feed(WornLines x, String text) {
        int answer = x.feed(0, 0, 0);
        for (int at = 0; at < text.length(); at += 24) {
            answer = x.feed(eight(text, at), eight(text, at + 8), eight(text, at + 16));
        }
        return answer;
    }

    static long eight(String text, int at) {
        long bytes = 0;
        for (int i = at; i < at + 8; i++) {
            bytes = bytes << 8 | (i < text.length() ? text.charAt(i) & 255 : 0);
        }
        return bytes;
    }

    static int programme(WornLines x, String text) {
        feed(x, text);
        return x.programme();
    }

    /** The text, then so many times the other. */
    static String with(String text, int times, String other) {
        StringBuilder all = new StringBuilder(text);
        for (int i = 0; i < times; i++) {
            all.append(other);
        }
        return all.toString();
    }

    /** A number as an E tells it, where all numbers have 4 digits at most. */
    static String spelled(int number) {
        if (number == Integer.MIN_VALUE) {
            return "(2048*1024*1024)";
        }
        if (number == Integer.MAX_VALUE) {
            return "(2048*1024*1024-1)";
        }
        return number < 0 ? "(0-" + -number + ")" : "" + number;
    }

    /** A new object with this PROGRAMME. */
    static WornLines told(String text) {
        WornLines x = new WornLines();
        int fault = programme(x, text);
        if (fault != 0) {
            throw new IllegalArgumentException("fault " + fault + " in " + text);
        }
        return x;
    }
}
