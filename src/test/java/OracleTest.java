/** Long runs of calls, made by a counter, of which each answer is compared with that of the Oracle. */
public final class OracleTest {
    private static final int RUNS = 400;
    private static final int CALLS = 512;
    private static final String[] WORDS = {
        "stuff", "bears", "costs", "cell", "input", "line", "set", "write", "go", "if", "call", "keep", "mend", "by",
        "halt", "worn", "not", "and", "or", "(", ")", "<", "=", "+", "-", "*", ";", "a", "b", "c", "p", "q", "r",
        "0", "1", "2", "9", "64", "1000", "9999", "12345", "toolongword", "#", "A", "?"};

    private final Check check = new Check();
    private long seed;
    private WornLines x;
    private Oracle o;
    private int left;
    private int cells;
    private int stuffs;
    private int lines;

    public static void main(String[] args) {
        OracleTest test = new OracleTest();
        int runs = args.length > 0 ? Integer.parseInt(args[0]) : RUNS;
        int from = args.length > 1 ? Integer.parseInt(args[1]) : 1;
        for (int i = 0; i < runs; i++) {
            test.run(from + i);
        }
        test.check.end();
    }

    private int any(int count) {
        seed = seed * 6364136223846793005L + 1442695040888963407L;
        return (int) ((seed >>> 33) % count);
    }

    private boolean oneIn(int count) {
        return any(count) == 0;
    }

    private int of(int... some) {
        return some[any(some.length)];
    }

    private void run(long number) {
        seed = number * 7919;
        x = new WornLines();
        o = new Oracle();
        left = CALLS;
        while (left > 0) {
            if (oneIn(25)) {
                tell();
            } else {
                call(number);
            }
        }
    }

    private void tell() {
        String text = programme();
        if (oneIn(3)) {
            text = spoil(text);
        }
        for (int at = 0; at < text.length() && left > 1; at += 24) {
            long a = Check.eight(text, at);
            long b = Check.eight(text, at + 8);
            long c = Check.eight(text, at + 16);
            left--;
            check.due("feed", x.feed(a, b, c), o.feed(a, b, c));
        }
        left--;
        check.due("programme of " + text, x.programme(), o.programme());
    }

    private String spoil(String text) {
        StringBuilder s = new StringBuilder(text);
        for (int i = any(3); i >= 0 && s.length() > 0; i--) {
            int at = any(s.length());
            switch (any(4)) {
                case 0 -> s.deleteCharAt(at);
                case 1 -> s.insert(at, WORDS[any(WORDS.length)]);
                case 2 -> s.insert(at, " " + WORDS[any(WORDS.length)] + " ");
                default -> s.setLength(oneIn(4) ? at : s.length());
            }
        }
        return s.toString();
    }

    /** A loop of which some line gives behind some 1,000 steps. */
    private String treadmill() {
        int ahead = any(3);
        int round = 1 + any(4);
        stuffs = 2;
        cells = 1;
        lines = ahead + round;
        StringBuilder s = new StringBuilder("stuff p bears 9999 costs 1;stuff q bears ")
                .append((1000 - ahead + any(7) - 3) / round).append(" costs 2;cell a 0;input a 0 ").append(any(5)).append(";");
        for (int i = 0; i < ahead; i++) {
            s.append("line p if a<").append(any(4)).append(" go ").append(ahead).append(";");
        }
        for (int i = 0; i < round; i++) {
            s.append("line ").append(oneIn(2) ? "q" : "p").append(i == round - 1 ? " go " + ahead : " write a").append(";");
        }
        return s.toString();
    }

    private String programme() {
        if (oneIn(8)) {
            return treadmill();
        }
        StringBuilder s = new StringBuilder();
        stuffs = 1 + any(oneIn(20) ? 5 : 4);
        cells = any(oneIn(20) ? 8 : 4);
        lines = oneIn(20) ? any(18) : 1 + any(8);
        for (int i = 0; i < stuffs; i++) {
            s.append("stuff ").append((char) ('p' + i)).append(" bears ").append(of(1, 1, 2, 3, 5, 8, 20, 300, 9999))
                    .append(" costs ").append(any(9)).append(";");
        }
        for (int i = 0; i < cells; i++) {
            s.append("cell ").append((char) ('a' + i)).append(" ").append(of(0, 0, 1, 5, 100)).append(";\n");
        }
        for (int i = Math.min(cells, any(3)); i > 0; i--) {
            int least = of(0, 0, 1, 7);
            s.append("input ").append((char) ('a' + i - 1)).append(" ").append(least).append(" ")
                    .append(least + any(oneIn(30) ? 40 : 6)).append(";");
        }
        for (int i = 0; i < lines; i++) {
            s.append("line ").append((char) ('p' + any(stuffs))).append(" ").append(act(i)).append(";");
        }
        return s.toString();
    }

    private String act(int line) {
        switch (any(cells > 0 ? 12 : 7)) {
            case 0: return "write " + e(0);
            case 1: return "go " + (oneIn(2) ? line + 1 + any(2) : e(1));
            case 2: return "if " + e(0) + " go " + (oneIn(2) ? line + 1 + any(3) : any(lines));
            case 3: return "mend " + (oneIn(2) ? any(lines) : e(1)) + " by " + (oneIn(2) ? any(4) : e(1));
            case 4: return oneIn(3) ? "halt" : "write worn " + any(lines);
            case 5: return "write " + e(0);
            case 6: return "if worn " + any(lines) + "<" + any(9) + " go " + any(lines);
            case 7: return "set " + cell() + " " + e(0);
            case 8: return "set " + cell() + " " + cell() + "+1";
            case 9: return "if " + cell() + "<" + any(20) + " go " + any(lines);
            case 10: return "call " + (oneIn(2) ? line + 1 + any(3) : e(1)) + " keep " + cell();
            default: return oneIn(2) ? "go " + cell() : "set " + cell() + " " + cell() + "-1";
        }
    }

    private String cell() {
        return String.valueOf((char) ('a' + any(cells)));
    }

    private String e(int depth) {
        String s = part(depth);
        for (int i = any(3); i > 0; i--) {
            s += of(0, 1) == 0 ? new String[] {"+", "-", "*"}[any(3)] + part(depth) : "";
        }
        if (oneIn(4)) {
            s += (oneIn(2) ? "<" : "=") + part(depth);
        }
        if (oneIn(5)) {
            s += (oneIn(2) ? " and " : " or ") + part(depth);
        }
        return s;
    }

    private String part(int depth) {
        if (depth < (oneIn(20) ? 6 : 3) && oneIn(3)) {
            switch (any(3)) {
                case 0: return "(" + e(depth + 1) + ")";
                case 1: return "not " + part(depth + 1);
                default: return "worn " + part(depth + 1);
            }
        }
        return cells > 0 && oneIn(2) ? cell() : String.valueOf(of(0, 1, 1, 2, 3, 5, 9, 9999));
    }

    private int line() {
        return oneIn(30) ? of(-1, 16, lines) : any(Math.max(1, lines));
    }

    private int input() {
        return oneIn(2) ? any(4) : any(o.inputs() + (oneIn(9) ? 1 : 0)) - (oneIn(30) ? 1 : 0);
    }

    private int what(int count) {
        return oneIn(25) ? of(-1, count, 99) : any(count);
    }

    private void call(long number) {
        left--;
        int kind = any(25);
        int a = line();
        int i = input();
        int w = what(3);
        String at = "run " + number + ", call " + (CALLS - left) + ", kind " + kind + " (" + a + ", " + i + ", " + w + ")";
        switch (kind) {
            case 0 -> check.due(at, x.stuff(a, w), o.stuff(a, w));
            case 1 -> {
                int what = what(5);
                check.due(at, x.line(a, what), o.line(a, what));
            }
            case 2 -> {
                int stuff = what(4);
                int twins = oneIn(20) ? of(0, 5) : 1 + any(4);
                check.due(at, x.lay(a, stuff, twins), o.lay(a, stuff, twins));
            }
            case 3 -> check.due(at, x.cost(), o.cost());
            case 4 -> check.due(at, x.inputs(), o.inputs());
            case 5 -> check.due(at, x.input(i, w), o.input(i, w));
            case 6, 7 -> check.due(at, x.begin(i), o.begin(i));
            case 8, 9, 10 -> {
                int steps = oneIn(20) ? of(-1, 1000001, 20000) : any(of(3, 12, 40, 1200));
                check.due(at + steps, x.run(steps), o.run(steps));
            }
            case 11 -> {
                int what = what(4);
                check.due(at, x.state(what), o.state(what));
            }
            case 12 -> check.due(at, Check.cell(x, w), Check.orThrows(() -> o.cell(w)));
            case 13 -> {
                int which = oneIn(9) ? of(-1, 199, 200, 201) : any(9);
                check.due(at, Check.wrote(x, which), Check.orThrows(() -> o.wrote(which)));
            }
            case 14 -> check.due(at, oneIn(3) && x.fresh(), oneInAgain(3) && o.fresh());
            case 15 -> check.due(at, x.steps(i), o.steps(i));
            case 16 -> check.due(at, x.falls(i), o.falls(i));
            case 17 -> check.due(at, x.most(a, w), o.most(a, w));
            case 18 -> check.due(at, x.never(), o.never());
            case 19 -> check.due(at, x.first(w), o.first(w));
            case 20 -> check.due(at, x.apart(), o.apart());
            case 21 -> check.due(at, x.rounds(i), o.rounds(i));
            case 22 -> rooms(at, a, w);
            case 23 -> check.due(at, x.better(w), o.better(w));
            default -> marks(at);
        }
    }

    /** The answer that oneIn gave last, so that both objects do the same. */
    private boolean oneInAgain(int count) {
        return (int) ((seed >>> 33) % count) == 0;
    }

    private void rooms(String at, int line, int what) {
        int room = oneIn(20) ? of(0, -1, 65) : oneIn(2) ? 1 + any(64) : 1 + any(2 * lines + 1);
        if (oneIn(2)) {
            check.due(at + room, x.lasting(room), o.lasting(room));
        } else {
            check.due(at + room, x.lasts(room, line, what), o.lasts(room, line, what));
        }
    }

    private void marks(String at) {
        int mark = oneIn(20) ? of(-1, 4) : any(4);
        switch (any(4)) {
            case 0 -> check.due(at + mark, x.same(mark), o.same(mark));
            case 1 -> check.due(at + mark, x.mark(mark, true), o.mark(mark, true));
            case 2 -> check.due(at + mark, x.mark(mark, false), o.mark(mark, false));
            default -> {
                int what = what(5);
                check.due(at, x.count(what), o.count(what));
            }
        }
    }
}
