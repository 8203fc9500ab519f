import java.util.ArrayList;
import java.util.Arrays;
import java.util.HashMap;
import java.util.LinkedHashMap;
import java.util.List;
import java.util.Map;
import java.util.NoSuchElementException;
import java.util.Set;
import java.util.regex.Matcher;
import java.util.regex.Pattern;

/** The document told a second time, in another way and with the whole library: what answers are due. */
final class Oracle {
    private static final Set<String> RESERVED = Set.of("stuff", "bears", "costs", "cell", "input", "line", "set",
            "write", "go", "if", "call", "keep", "mend", "by", "halt", "worn", "not", "and", "or");
    private static final List<String> ACTS = List.of("set", "write", "go", "if", "call", "mend", "halt");

    enum Way { HARD, SOFT, PLAIN }

    interface Value {
        int of(Run run);
    }

    record Token(String text, int place) { }

    record Stuff(int bears, int costs) { }

    record Input(String cell, int least, int greatest) { }

    record Line(int act, int stuff, String cell, Value one, Value two) { }

    static final class Fault extends Exception {
        private static final long serialVersionUID = 1;
        final int number;

        Fault(int kind, int place) {
            number = kind + 16 * place;
        }
    }

    static final class Told {
        final Map<String, Stuff> stuffs = new LinkedHashMap<>();
        final Map<String, Integer> cells = new LinkedHashMap<>();
        final List<Input> inputs = new ArrayList<>();
        final List<Line> lines = new ArrayList<>();

        List<Map<String, Integer>> all() {
            List<Map<String, Integer>> all = new ArrayList<>();
            all.add(new LinkedHashMap<>(cells));
            for (Input input : inputs) {
                List<Map<String, Integer>> more = new ArrayList<>();
                for (Map<String, Integer> one : all) {
                    for (int n = input.least; n <= input.greatest; n++) {
                        Map<String, Integer> with = new LinkedHashMap<>(one);
                        with.put(input.cell, n);
                        more.add(with);
                    }
                }
                all = more;
            }
            return all;
        }

        Stuff stuff(int i) {
            return new ArrayList<>(stuffs.values()).get(i);
        }
    }

    static final class Reading {
        final List<Token> tokens = new ArrayList<>();
        int i = 0;
        final Told told = new Told();

        Reading(String text) {
            Matcher m = Pattern.compile("[a-z]+|[0-9]+|[^ \n]").matcher(text);
            while (m.find()) {
                tokens.add(new Token(m.group(), m.start()));
            }
            tokens.add(new Token("", text.length()));
        }

        String see() {
            return tokens.get(i).text;
        }

        Fault fault(int kind) {
            return new Fault(kind, tokens.get(i).place);
        }

        boolean isName() {
            return see().matches("[a-z]{1,8}") && !RESERVED.contains(see());
        }

        boolean isNumber() {
            return see().matches("[0-9]{1,4}");
        }

        void word(String word) throws Fault {
            if (!see().equals(word)) {
                throw fault(1);
            }
            i++;
        }

        String known(Map<String, ?> names) throws Fault {
            if (!isName()) {
                throw fault(1);
            }
            if (!names.containsKey(see())) {
                throw fault(2);
            }
            return see();
        }

        String unknown() throws Fault {
            if (!isName()) {
                throw fault(1);
            }
            if (told.stuffs.containsKey(see()) || told.cells.containsKey(see())) {
                throw fault(3);
            }
            return tokens.get(i++).text;
        }

        int number(int least, int greatest) throws Fault {
            if (!isNumber()) {
                throw fault(1);
            }
            int n = Integer.parseInt(see());
            if (n < least || n > greatest) {
                throw fault(4);
            }
            i++;
            return n;
        }

        Told read() throws Fault {
            while (!see().isEmpty()) {
                switch (see()) {
                    case "stuff" -> stuff();
                    case "cell" -> cell();
                    case "input" -> input();
                    case "line" -> line();
                    default -> throw fault(1);
                }
                word(";");
            }
            return told;
        }

        void stuff() throws Fault {
            if (told.stuffs.size() == 4) {
                throw fault(5);
            }
            i++;
            String name = unknown();
            word("bears");
            int bears = number(1, 9999);
            word("costs");
            told.stuffs.put(name, new Stuff(bears, number(0, 999)));
        }

        void cell() throws Fault {
            if (told.cells.size() == 6) {
                throw fault(5);
            }
            i++;
            String name = unknown();
            told.cells.put(name, number(0, 9999));
        }

        void input() throws Fault {
            if (told.inputs.size() == 2) {
                throw fault(5);
            }
            i++;
            String name = known(told.cells);
            for (Input other : told.inputs) {
                if (other.cell.equals(name)) {
                    throw fault(3);
                }
            }
            i++;
            int least = number(0, 9999);
            int before = told.all().size();
            int greatest = number(least, 9999);
            if (before * (greatest - least + 1) > 64) {
                i--;
                throw fault(5);
            }
            told.inputs.add(new Input(name, least, greatest));
        }

        void line() throws Fault {
            if (told.lines.size() == 16) {
                throw fault(5);
            }
            i++;
            int stuff = new ArrayList<>(told.stuffs.keySet()).indexOf(known(told.stuffs));
            i++;
            int act = ACTS.indexOf(see());
            if (act < 0) {
                throw fault(1);
            }
            i++;
            String cell = null;
            Value one = run -> 0;
            Value two = run -> 0;
            if (act == 0) {
                cell = known(told.cells);
                i++;
            }
            if (act < 6) {
                one = either(0);
            }
            if (act == 3) {
                word("go");
                two = either(0);
            }
            if (act == 4) {
                word("keep");
                cell = known(told.cells);
                i++;
            }
            if (act == 5) {
                word("by");
                two = either(0);
            }
            told.lines.add(new Line(act, stuff, cell, one, two));
        }

        Value either(int within) throws Fault {
            Value left = test(within);
            while (see().equals("and") || see().equals("or")) {
                boolean and = tokens.get(i++).text.equals("and");
                Value a = left;
                Value b = test(within);
                left = run -> {
                    boolean x = a.of(run) != 0;
                    boolean y = b.of(run) != 0;
                    return (and ? x & y : x | y) ? 1 : 0;
                };
            }
            return left;
        }

        Value test(int within) throws Fault {
            Value a = sum(within);
            if (see().equals("<")) {
                i++;
                Value b = sum(within);
                return run -> a.of(run) < b.of(run) ? 1 : 0;
            }
            if (see().equals("=")) {
                i++;
                Value b = sum(within);
                return run -> a.of(run) == b.of(run) ? 1 : 0;
            }
            return a;
        }

        Value sum(int within) throws Fault {
            Value left = product(within);
            while (see().equals("+") || see().equals("-")) {
                int sign = tokens.get(i++).text.equals("+") ? 1 : -1;
                Value a = left;
                Value b = product(within);
                left = run -> a.of(run) + sign * b.of(run);
            }
            return left;
        }

        Value product(int within) throws Fault {
            Value left = part(within);
            while (see().equals("*")) {
                i++;
                Value a = left;
                Value b = part(within);
                left = run -> a.of(run) * b.of(run);
            }
            return left;
        }

        Value part(int within) throws Fault {
            boolean opens = see().equals("(") || see().equals("not") || see().equals("worn");
            if (!opens && !isNumber()) {
                known(told.cells);
            }
            if (within >= 5) {
                throw fault(5);
            }
            String text = tokens.get(i++).text;
            switch (text) {
                case "(": {
                    Value inner = either(within + 1);
                    word(")");
                    return inner;
                }
                case "not": {
                    Value inner = part(within + 1);
                    return run -> inner.of(run) == 0 ? 1 : 0;
                }
                case "worn": {
                    Value inner = part(within + 1);
                    return run -> run.worn[run.lineOf(inner.of(run))];
                }
                default:
                    return Character.isDigit(text.charAt(0))
                            ? run -> Integer.parseInt(text) : run -> run.cells.get(text);
            }
        }
    }

    /** A machine; its state is counted as in the document. */
    static final class Run {
        Told told = new Told();
        int[] stuffs = new int[0];
        int[] twins = new int[0];
        int[] worn = new int[0];
        int[] over = new int[0];
        int[] peak = new int[0];
        Map<String, Integer> cells = new HashMap<>();
        List<Integer> wrote = new ArrayList<>();
        int state = 0;
        int next = 0;
        int steps = 0;

        Run like() {
            Run r = new Run();
            r.told = told;
            r.stuffs = stuffs.clone();
            r.twins = twins.clone();
            r.worn = worn.clone();
            r.over = new int[worn.length];
            r.peak = new int[worn.length];
            r.cells = new LinkedHashMap<>(cells);
            r.wrote = new ArrayList<>(wrote);
            r.state = state;
            r.next = next;
            r.steps = steps;
            return r;
        }

        int lineOf(int n) {
            return (int) (((long) n % told.lines.size() + told.lines.size()) % told.lines.size());
        }

        int bears(int line) {
            return told.stuff(stuffs[line]).bears * twins[line];
        }

        void begin(int input) {
            cells = new LinkedHashMap<>(told.all().get(input));
            wrote = new ArrayList<>();
            state = 1;
            next = 0;
            steps = 0;
        }

        int go(Way way, int most) {
            int made = 0;
            while (made < most && state == 1) {
                if (way == Way.HARD && worn[next] >= bears(next)) {
                    state = 3;
                    break;
                }
                step(way);
                made++;
            }
            return made;
        }

        void step(Way way) {
            Line line = told.lines.get(next);
            int here = next;
            over[here]++;
            if (way != Way.PLAIN) {
                worn[here]++;
                peak[here] = Math.max(peak[here], worn[here]);
            }
            steps++;
            int one = line.one.of(this);
            int two = line.two.of(this);
            next = here + 1;
            switch (line.act) {
                case 0 -> cells.put(line.cell, one);
                case 1 -> wrote.add(one);
                case 2 -> next = lineOf(one);
                case 3 -> next = one != 0 ? lineOf(two) : next;
                case 4 -> {
                    cells.put(line.cell, here + 1);
                    next = lineOf(one);
                }
                case 5 -> {
                    int mended = lineOf(one);
                    if (two > 0 && way != Way.PLAIN) {
                        worn[mended] = (int) Math.max(0L, (long) worn[mended] - two);
                    }
                }
                default -> next = told.lines.size();
            }
            if (next == told.lines.size()) {
                state = 2;
            }
        }
    }

    private final StringBuilder tape = new StringBuilder();
    private Run hand = new Run();
    private final Run[] marks = new Run[4];

    private int lines() {
        return hand.told.lines.size();
    }

    private Run asked(Run of, Way way, int input) {
        Run run = of.like();
        Arrays.fill(run.worn, 0);
        run.begin(input);
        run.go(way, 1000);
        if (way == Way.HARD && run.state == 1 && run.worn[run.next] >= run.bears(run.next)) {
            run.state = 3;
        }
        return run;
    }

    int feed(long a, long b, long c) {
        for (long eight : new long[] {a, b, c}) {
            String hex = String.format("%016x", eight);
            for (int i = 0; i < 16; i += 2) {
                int sign = Integer.parseInt(hex.substring(i, i + 2), 16);
                boolean fits = sign == 10 || 32 <= sign && sign <= 126;
                if (fits && tape.length() < 1000) {
                    tape.append((char) sign);
                }
            }
        }
        return tape.length();
    }

    int programme() {
        String text = tape.toString();
        tape.setLength(0);
        try {
            Told told = new Reading(text).read();
            hand = new Run();
            hand.told = told;
            hand.stuffs = told.lines.stream().mapToInt(Line::stuff).toArray();
            hand.twins = told.lines.stream().mapToInt(l -> 1).toArray();
            hand.worn = new int[told.lines.size()];
            hand.over = new int[told.lines.size()];
            hand.peak = new int[told.lines.size()];
            return 0;
        } catch (Fault fault) {
            return fault.number;
        }
    }

    int stuff(int stuff, int what) {
        if (stuff < 0 || stuff >= hand.told.stuffs.size() || what < 0 || what > 1) {
            return -1;
        }
        return what == 0 ? hand.told.stuff(stuff).bears : hand.told.stuff(stuff).costs;
    }

    int line(int line, int what) {
        if (line < 0 || line >= lines() || what < 0 || what > 4) {
            return -1;
        }
        return new int[] {hand.told.lines.get(line).act, hand.stuffs[line], hand.twins[line], hand.bears(line),
            hand.worn[line]}[what];
    }

    boolean lay(int line, int stuff, int twins) {
        if (line < 0 || line >= lines() || stuff < 0 || stuff >= hand.told.stuffs.size() || twins < 1 || twins > 4) {
            return false;
        }
        hand.stuffs[line] = stuff;
        hand.twins[line] = twins;
        hand.worn[line] = 0;
        return true;
    }

    int cost() {
        int sum = 0;
        for (int i = 0; i < lines(); i++) {
            sum += hand.told.stuff(hand.stuffs[i]).costs * hand.twins[i];
        }
        return sum;
    }

    int inputs() {
        return hand.told.all().size();
    }

    int input(int input, int cell) {
        if (input < 0 || input >= inputs() || cell < 0 || cell >= hand.told.cells.size()) {
            return -1;
        }
        return new ArrayList<>(hand.told.all().get(input).values()).get(cell);
    }

    private boolean can(int input) {
        return lines() > 0 && input >= 0 && input < inputs();
    }

    boolean begin(int input) {
        if (can(input)) {
            hand.begin(input);
        }
        return can(input);
    }

    int run(int steps) {
        if (steps < 0 || steps > 1000000) {
            return -1;
        }
        int made = hand.go(Way.HARD, Math.min(steps, 1000000 - hand.steps));
        if (hand.state == 1 && hand.steps == 1000000) {
            hand.state = 4;
        }
        return made;
    }

    int state(int what) {
        return switch (what) {
            case 0 -> hand.state;
            case 1 -> hand.state == 0 || hand.state == 2 ? -1 : hand.next;
            case 2 -> hand.steps;
            case 3 -> hand.wrote.size();
            default -> -1;
        };
    }

    int cell(int cell) {
        if (hand.state == 0 || cell < 0 || cell >= hand.told.cells.size()) {
            throw new NoSuchElementException();
        }
        return hand.cells.get(new ArrayList<>(hand.told.cells.keySet()).get(cell));
    }

    int wrote(int i) {
        if (i < 0 || i >= 200 || i >= hand.wrote.size()) {
            throw new NoSuchElementException();
        }
        return hand.wrote.get(i);
    }

    boolean fresh() {
        Arrays.fill(hand.worn, 0);
        return true;
    }

    int steps(int input) {
        if (!can(input)) {
            return -1;
        }
        Run run = asked(hand, Way.HARD, input);
        return run.state == 1 ? -1 : run.steps;
    }

    int falls(int input) {
        if (!can(input)) {
            return -1;
        }
        Run run = asked(hand, Way.HARD, input);
        return run.state == 3 ? run.next : -1;
    }

    private List<Run> soft() {
        List<Run> all = new ArrayList<>();
        for (int i = 0; lines() > 0 && i < inputs(); i++) {
            Run run = asked(hand, Way.SOFT, i);
            if (run.state == 1) {
                return List.of();
            }
            all.add(run);
        }
        return all;
    }

    int most(int line, int what) {
        List<Run> all = soft();
        if (all.isEmpty() || line < 0 || line >= lines()) {
            return -1;
        }
        int often = all.stream().mapToInt(r -> r.over[line]).max().getAsInt();
        return switch (what) {
            case 0 -> often;
            case 1 -> {
                int by = 0;
                while (all.get(by).over[line] != often) {
                    by++;
                }
                yield by;
            }
            case 2 -> all.stream().mapToInt(r -> r.peak[line]).max().getAsInt();
            default -> -1;
        };
    }

    int never() {
        List<Run> all = soft();
        if (all.isEmpty()) {
            return -1;
        }
        int bits = 0;
        for (int i = 0; i < lines(); i++) {
            int line = i;
            bits += all.stream().allMatch(r -> r.over[line] == 0) ? 1 << line : 0;
        }
        return bits;
    }

    int first(int what) {
        int[] best = null;
        for (int i = 0; lines() > 0 && i < inputs(); i++) {
            Run run = asked(hand, Way.HARD, i);
            if (run.state == 3 && (best == null || run.steps < best[1])) {
                best = new int[] {i, run.steps, run.next};
            }
        }
        return best == null || what < 0 || what > 2 ? -1 : best[what];
    }

    int apart() {
        for (int i = 0; lines() > 0 && i < inputs(); i++) {
            if (!asked(hand, Way.HARD, i).wrote.equals(asked(hand, Way.PLAIN, i).wrote)) {
                return i;
            }
        }
        return -1;
    }

    int rounds(int input) {
        if (!can(input)) {
            return -1;
        }
        Run run = asked(hand, Way.HARD, input);
        int rounds = 0;
        while (run.state == 2 && rounds < 100) {
            rounds++;
            run.begin(input);
            run.go(Way.HARD, 1000);
        }
        return rounds;
    }

    /** The choices behind a cost, as STUFF and TWINS of each LINE in turn. */
    private record Laid(int cost, List<Integer> choices) {
        boolean before(Laid other) {
            if (other == null || cost != other.cost) {
                return other == null || cost < other.cost;
            }
            for (int i = 0; i < choices.size(); i++) {
                if (!choices.get(i).equals(other.choices.get(i))) {
                    return choices.get(i) < other.choices.get(i);
                }
            }
            return false;
        }
    }

    /** Forward: of the layings of the LINES so far that take just so much room, the best. */
    private Laid laid(int room) {
        if (room < 1 || room > 64 || soft().isEmpty()) {
            return null;
        }
        Laid[] by = new Laid[room + 1];
        by[0] = new Laid(0, List.of());
        for (int line = 0; line < lines(); line++) {
            int peak = most(line, 2);
            Laid[] now = new Laid[room + 1];
            for (int used = 0; used <= room; used++) {
                for (int choice = 0; by[used] != null && choice < 4 * hand.told.stuffs.size(); choice++) {
                    Stuff stuff = hand.told.stuff(choice / 4);
                    int twins = choice % 4 + 1;
                    if (stuff.bears * twins < peak || used + twins > room) {
                        continue;
                    }
                    List<Integer> choices = new ArrayList<>(by[used].choices);
                    choices.add(choice / 4);
                    choices.add(twins);
                    Laid next = new Laid(by[used].cost + stuff.costs * twins, choices);
                    if (next.before(now[used + twins])) {
                        now[used + twins] = next;
                    }
                }
            }
            by = now;
        }
        Laid best = null;
        for (Laid one : by) {
            if (one != null && one.before(best)) {
                best = one;
            }
        }
        return best;
    }

    int lasting(int room) {
        Laid laid = laid(room);
        return laid == null ? -1 : laid.cost;
    }

    int lasts(int room, int line, int what) {
        if (line < 0 || line >= lines() || what < 0 || what > 1) {
            return -1;
        }
        Laid laid = laid(room);
        return laid == null ? -1 : laid.choices.get(2 * line + what);
    }

    int better(int what) {
        if (hand.state != 1 && hand.state != 3 || what < 0 || what > 1) {
            return -1;
        }
        int[] best = {-1, -1};
        for (int line = 0; line < lines(); line++) {
            Run run = hand.like();
            run.worn[line] = 0;
            run.state = 1;
            int made = run.go(Way.HARD, Math.min(1000, 1000000 - hand.steps));
            if (made > best[1]) {
                best = new int[] {line, made};
            }
        }
        return best[what];
    }

    int same(int mark) {
        if (mark < 0 || mark > 3 || marks[mark] == null) {
            return -2;
        }
        Run other = marks[mark];
        if (lines() == 0 || other.told.lines.isEmpty() || other.told.all().size() != inputs()) {
            return -2;
        }
        for (int i = 0; i < inputs(); i++) {
            Run one = asked(hand, Way.PLAIN, i);
            Run two = asked(other, Way.PLAIN, i);
            if (one.state != two.state || !one.wrote.equals(two.wrote)) {
                return i;
            }
        }
        return -1;
    }

    boolean mark(int mark, boolean back) {
        if (mark < 0 || mark > 3 || back && marks[mark] == null) {
            return false;
        }
        if (back) {
            hand = marks[mark].like();
        } else {
            marks[mark] = hand.like();
        }
        return true;
    }

    int count(int what) {
        return switch (what) {
            case 0 -> hand.told.stuffs.size();
            case 1 -> hand.told.cells.size();
            case 2 -> hand.told.inputs.size();
            case 3 -> lines();
            case 4 -> tape.length();
            default -> -1;
        };
    }
}
