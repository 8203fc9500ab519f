import java.util.function.Consumer;

/** The promises 1 to 28: the boundary cases that each of them names, and that what is refused changes nothing. */
public final class EdgesOfCallsTest {
    private static final Check CHECK = new Check();
    private static final int NONE = WornLines.NONE;
    private static final int LEAST = Integer.MIN_VALUE;
    private static final int GREATEST = Integer.MAX_VALUE;
    private static final String X = "stuff x bears 9999 costs 1;";
    /** Two stuffs, two cells, five inputs, four lines; by inputs 0 and 1 it ends, by the others it falls. */
    private static final String FOUR = "stuff a bears 3 costs 5;stuff b bears 1 costs 7;cell n 0;cell s 2;input n 0 4;"
            + "line a set s s+n;line a write s;line a set n n-1;line b if 0<n go 0;";
    private static final String ENDLESS = X + "cell c 0;input c 0 1;line x if c go 0;line x write c;";

    public static void main(String[] args) {
        newObject();
        feed();
        feedLeavesOut();
        programme();
        stuff();
        line();
        lay();
        layNotWorn();
        cost();
        inputs();
        input();
        begin();
        run();
        runAsFarAsItGoes();
        state();
        cell();
        wrote();
        fresh();
        steps();
        falls();
        most();
        never();
        first();
        apart();
        rounds();
        lasting();
        lasts();
        better();
        same();
        mark();
        markOverMark();
        count();
        askingChangesNothing();
        askedInAnyOrder();
        manyProgrammes();
        CHECK.end();
    }

    private static void due(String call, long got, long want) {
        CHECK.due(call, got, want);
    }

    private static void due(String call, boolean got, boolean want) {
        CHECK.due(call, got, want);
    }

    /** All that shows without a change. */
    private static String shown(WornLines x) {
        StringBuilder all = new StringBuilder();
        for (int what = 0; what < 5; what++) {
            all.append(x.count(what)).append(' ');
        }
        all.append(x.cost()).append(' ').append(x.inputs()).append(' ');
        for (int line = 0; line < x.count(3); line++) {
            for (int what = 1; what < 5; what++) {
                all.append(x.line(line, what)).append(' ');
            }
        }
        for (int what = 0; what < 4; what++) {
            all.append(x.state(what)).append(' ');
        }
        for (int i = 0; i < 3; i++) {
            all.append(Check.cell(x, i)).append(' ').append(Check.wrote(x, i)).append(' ');
        }
        return all.toString();
    }

    private static void changesNothing(String what, WornLines x, Consumer<WornLines> calls) {
        String before = shown(x);
        calls.accept(x);
        String after = shown(x);
        due(what + " changes nothing: " + before + " / " + after, before.equals(after), true);
    }

    private static WornLines walked() {
        WornLines x = Check.told(FOUR);
        x.lay(1, 0, 2);
        x.begin(3);
        due("run(5)", x.run(5), 5);
        return x;
    }

    private static void newObject() {
        CHECK.sentence("`WornLines()`: No LINE.");
        WornLines x = new WornLines();
        for (int what = 0; what < 5; what++) {
            due("count(" + what + ")", x.count(what), 0);
            due("line(0, " + what + ")", x.line(0, what), NONE);
        }
        due("cost()", x.cost(), 0);
        due("inputs()", x.inputs(), 1);
        due("input(0, 0)", x.input(0, 0), NONE);
        due("stuff(0, 0)", x.stuff(0, 0), NONE);
        due("lay(0, 0, 1)", x.lay(0, 0, 1), false);
        due("begin(0)", x.begin(0), false);
        due("run(1)", x.run(1), 0);
        due("run(-1)", x.run(-1), NONE);
        due("cell(0)", Check.cell(x, 0), Check.THROWS);
        due("wrote(0)", Check.wrote(x, 0), Check.THROWS);
        due("fresh()", x.fresh(), true);
        due("steps(0)", x.steps(0), NONE);
        due("falls(0)", x.falls(0), NONE);
        due("most(0, 0)", x.most(0, 0), NONE);
        due("never()", x.never(), NONE);
        due("first(0)", x.first(0), NONE);
        due("apart()", x.apart(), NONE);
        due("rounds(0)", x.rounds(0), NONE);
        due("lasting(1)", x.lasting(1), NONE);
        due("lasts(1, 0, 0)", x.lasts(1, 0, 0), NONE);
        due("better(0)", x.better(0), NONE);
        due("same(0)", x.same(0), -2);
        due("mark(0, true)", x.mark(0, true), false);
        due("mark(0, false)", x.mark(0, false), true);
        due("same(0)", x.same(0), -2);
        due("mark(0, true)", x.mark(0, true), true);
        due("programme()", x.programme(), 0);
    }

    private static void feed() {
        CHECK.sentence("Up to 24 signs come behind the TAPE: the bytes of a, b, c, of each the highest first");
        WornLines x = new WornLines();
        due("24", x.feed(0x63656c6c20616263L, 0x6465666768203132L, 0x33343b696e707574L), 24);
        due("behind them", x.feed(0x2061626364656667L, 0x6820313939302032L, 0x3030303b00000000L), 44);
        due("cell abcdefgh 1234;input abcdefgh 1990 2000;", x.programme(), 0);
        due("the least", x.input(0, 0), 1990);
        due("the greatest", x.input(10, 0), 2000);
        due("no more", x.input(11, 0), NONE);
        due("by c alone", x.feed(0, 0, 0x63656c6c20612031L), 8);
        due("by b alone", x.feed(0, 0x3b00000000000000L, 0), 9);
        due("nothing", x.feed(0, 0, 0), 9);
        due("cell a 1;", x.programme(), 0);
        due("its cell", x.input(0, 0), 1);
    }

    private static void feedLeavesOut() {
        CHECK.sentence("others than 10 and 32 .. 126, and what is beyond 1,000, are left out: how many there are.");
        WornLines x = new WornLines();
        due("31, 127, 128, 255, 9, 11, 13, 0", x.feed(0x1f7f80ff090b0d00L, 0, 0), 0);
        due("-1", x.feed(-1, -1, -1), 0);
        due("Long.MIN_VALUE", x.feed(Long.MIN_VALUE, Long.MIN_VALUE, Long.MIN_VALUE), 0);
        due("Long.MAX_VALUE", x.feed(Long.MAX_VALUE, Long.MAX_VALUE, Long.MAX_VALUE), 0);
        due("10, 32, 126 among others", x.feed(0x000aff207f7e1f80L, 0, 0), 3);
        due("~ at 2", x.programme(), 1 + 16 * 2);
        // Left out, they leave no gap: c e l l is one word.
        due("among others", x.feed(0x63006501ff6c806cL, 0x2061203100003b00L, 0), 9);
        due("cell a 1;", x.programme(), 0);
        for (int i = 1; i <= 41; i++) {
            due("24 a call", x.feed(0x2020202020202020L, 0x2020202020202020L, 0x2020202020202020L), 24 * i);
        }
        due("1,000 of 1,008", x.feed(0x2020202020202020L, 0x2020202020202020L, 0x2323232323232323L), 1000);
        due("none more", x.feed(0x2323232323232323L, 0, 0), 1000);
        due("none more", x.feed(0, 0, 0x23), 1000);
        due("the # are left out", x.programme(), 0);
        due("there is room again", x.feed(0, 0, 0x23), 1);
    }

    private static void programme() {
        CHECK.sentence("The TAPE is read as a PROGRAMME: 0, or its FAULT (all stays then).");
        String[] faults = {"#", "cell a 1", "stuff q bears 0 costs 1;", "line z halt;", "cell a 1;cell a 1;",
            "cell a 1;input a 0 64;", "cell n 1;stuff a bears 1 costs 1;line a write n;;"};
        int[] due = {1, 1 + 16 * 8, 4 + 16 * 14, 2 + 16 * 5, 3 + 16 * 14, 5 + 16 * 19, 1 + 16 * 48};
        for (int i = 0; i < faults.length; i++) {
            WornLines x = walked();
            x.mark(0, false);
            String before = shown(x);
            due(faults[i], Check.programme(x, faults[i]), due[i]);
            due("all stays: " + faults[i], before.equals(shown(x)), true);
            due("what is asked stays", x.steps(0), 4);
            due("marks stay", x.mark(0, true), true);
            due("marks stay", before.equals(shown(x)), true);
            due("it goes on", x.run(9), 2);
        }
        WornLines y = walked();
        due("the empty tape", y.programme(), 0);
        due("no line any more", y.count(3), 0);
        due("no cell any more", y.count(1), 0);
        due("nothing begun", y.state(0), 0);
        due("no line", y.begin(0), false);
    }

    private static void stuff() {
        CHECK.sentence("Of a STUFF, what 0: bears, 1: costs; NONE: others.");
        WornLines x = Check.told(FOUR);
        due("stuff(0, 0)", x.stuff(0, 0), 3);
        due("stuff(1, 1)", x.stuff(1, 1), 7);
        for (int other : new int[] {LEAST, -1, 2, 3, 4, GREATEST}) {
            due("stuff(" + other + ", 0)", x.stuff(other, 0), NONE);
            due("stuff(" + other + ", 1)", x.stuff(other, 1), NONE);
            due("stuff(0, " + other + ")", x.stuff(0, other), NONE);
        }
        x.lay(0, 1, 4);
        due("however it is laid", x.stuff(1, 0), 1);
        due("told, without a line", Check.told("stuff q bears 9 costs 8;").stuff(0, 0), 9);
    }

    private static void line() {
        CHECK.sentence("Of a LINE, what 0: its ACT (0 set, 1 write, 2 go, 3 if, 4 call, 5 mend, 6 halt), 1: its STUFF, "
                + "2: TWINS, 3: what it BEARS, 4: how worn it is; NONE: others.");
        WornLines x = Check.told(X + "cell c 0;line x set c 1;line x write 1;line x go 1;line x if 1 go 1;"
                + "line x call 1 keep c;line x mend 1 by 1;line x halt;");
        for (int act = 0; act < 7; act++) {
            due("act", x.line(act, 0), act);
        }
        WornLines y = walked();
        int[][] want = {{0, 0, 1, 3, 2}, {1, 0, 2, 6, 1}, {0, 0, 1, 3, 1}, {3, 1, 1, 1, 1}};
        for (int line = 0; line < 4; line++) {
            for (int what = 0; what < 5; what++) {
                due("line(" + line + ", " + what + ")", y.line(line, what), want[line][what]);
            }
        }
        for (int other : new int[] {LEAST, -1, 5, 6, 16, GREATEST}) {
            due("line(" + other + ", 0)", y.line(other, 0), NONE);
            due("line(" + other + ", 4)", y.line(other, 4), NONE);
            due("line(0, " + other + ")", y.line(0, other), NONE);
        }
        due("line(4, 0)", y.line(4, 0), NONE);
    }

    private static void lay() {
        CHECK.sentence("A LINE is LAID anew, with so many TWINS (1 to 4): true (it is not worn then); false: others.");
        WornLines x = walked();
        changesNothing("what is refused", x, y -> {
            for (int other : new int[] {LEAST, -1, 4, 5, 16, GREATEST}) {
                due("no line " + other, y.lay(other, 0, 1), false);
            }
            for (int other : new int[] {LEAST, -1, 2, 3, 4, GREATEST}) {
                due("no stuff " + other, y.lay(0, other, 1), false);
            }
            for (int other : new int[] {LEAST, -1, 0, 5, GREATEST}) {
                due("twins " + other, y.lay(0, 0, other), false);
            }
        });
        for (int line = 0; line < 4; line++) {
            for (int stuff = 0; stuff < 2; stuff++) {
                for (int twins = 1; twins <= 4; twins++) {
                    due("lay", x.lay(line, stuff, twins), true);
                    due("its stuff", x.line(line, 1), stuff);
                    due("its twins", x.line(line, 2), twins);
                    due("it bears", x.line(line, 3), twins * (stuff == 0 ? 3 : 1));
                }
            }
        }
        due("a stuff that no line was told of", Check.told(X + "stuff y bears 1 costs 1;line x halt;").lay(0, 1, 1), true);
    }

    private static void layNotWorn() {
        CHECK.sentence("true (it is not worn then)");
        WornLines x = walked();
        due("worn", x.line(0, 4), 2);
        due("laid as it was laid", x.lay(0, 0, 1), true);
        due("not worn", x.line(0, 4), 0);
        due("others stay worn", x.line(1, 4), 1);
        due("the machine stays", x.state(2), 5);
        due("the machine stays", x.state(1), 1);
        due("refused", x.lay(1, 0, 0), false);
        due("refused: it stays worn", x.line(1, 4), 1);
        // A line laid with less than it was worn is no hole, for it is not worn.
        WornLines y = Check.told("stuff a bears 9 costs 1;stuff b bears 2 costs 1;line a go 0;");
        y.begin(0);
        y.run(5);
        y.lay(0, 1, 1);
        due("it bears 2 more", y.run(9), 2);
        due("then it falls", y.state(0), 3);
        due("5 and 2 steps", y.state(2), 7);
    }

    private static void cost() {
        CHECK.sentence("What all costs as it is LAID.");
        WornLines x = Check.told(FOUR);
        due("as told", x.cost(), 22);
        x.lay(3, 1, 4);
        due("with twins", x.cost(), 43);
        x.lay(3, 0, 4);
        due("of the other", x.cost(), 35);
        due("no line", Check.told("stuff a bears 1 costs 999;").cost(), 0);
        WornLines y = Check.told(Check.with("stuff a bears 1 costs 999;", 16, "line a halt;"));
        for (int line = 0; line < 16; line++) {
            y.lay(line, 0, 4);
        }
        due("the most there is", y.cost(), 999 * 64);
        due("nothing", Check.told("stuff a bears 1 costs 0;line a halt;").cost(), 0);
    }

    private static void inputs() {
        CHECK.sentence("How many INPUTS there are.");
        due("one", Check.told("cell a 1;").inputs(), 1);
        due("one", Check.told("cell a 1;input a 3 3;").inputs(), 1);
        due("two", Check.told("cell a 1;input a 3 4;").inputs(), 2);
        due("64", Check.told("cell a 1;input a 3 66;").inputs(), 64);
        due("64", Check.told("cell a 1;cell b 1;input a 0 3;input b 0 15;").inputs(), 64);
    }

    private static void input() {
        CHECK.sentence("What a CELL is as an INPUT begins; NONE: others.");
        WornLines x = walked();
        for (int input = 0; input < 5; input++) {
            due("n", x.input(input, 0), input);
            due("s", x.input(input, 1), 2);
        }
        for (int other : new int[] {LEAST, -1, 5, 64, GREATEST}) {
            due("input(" + other + ", 0)", x.input(other, 0), NONE);
            due("input(" + other + ", 1)", x.input(other, 1), NONE);
        }
        for (int other : new int[] {LEAST, -1, 2, 5, 6, GREATEST}) {
            due("input(0, " + other + ")", x.input(0, other), NONE);
            due("input(4, " + other + ")", x.input(4, other), NONE);
        }
        due("without a line", Check.told("cell a 9999;").input(0, 0), 9999);
    }

    private static void begin() {
        CHECK.sentence("BEGUN with an INPUT: true; false: no such one, no LINE.");
        WornLines x = walked();
        changesNothing("what is refused", x, y -> {
            for (int other : new int[] {LEAST, -1, 5, 64, GREATEST}) {
                due("begin(" + other + ")", y.begin(other), false);
            }
        });
        due("the last", x.begin(4), true);
        due("its cell", Check.cell(x, 0), 4);
        due("the first", x.begin(0), true);
        due("its cell", Check.cell(x, 0), 0);
        WornLines z = Check.told("stuff a bears 1 costs 1;cell c 1;input c 0 1;");
        due("no line", z.begin(0), false);
        due("no line", z.begin(1), false);
        due("no line", z.state(0), 0);
    }

    private static void run() {
        CHECK.sentence("So many STEPS (0 to 1,000,000), as far as it goes: how many were made; NONE: others.");
        WornLines x = walked();
        changesNothing("what is refused", x, y -> {
            for (int other : new int[] {LEAST, -1000000, -1, 1000001, GREATEST}) {
                due("run(" + other + ")", y.run(other), NONE);
            }
        });
        changesNothing("run(0)", x, y -> due("run(0)", y.run(0), 0));
        due("run(1)", x.run(1), 1);
        due("run(1,000,000)", x.run(1000000), 1);
        due("run(1,000,001), fallen", x.run(1000001), NONE);
        due("run(-1), fallen", x.run(-1), NONE);
        WornLines z = new WornLines();
        due("run(-1), nothing begun", z.run(-1), NONE);
        due("run(1,000,001), nothing begun", z.run(1000001), NONE);
        due("run(1,000,000), nothing begun", z.run(1000000), 0);
        due("run(0), nothing begun", z.run(0), 0);
    }

    private static void runAsFarAsItGoes() {
        CHECK.sentence("So many STEPS (0 to 1,000,000), as far as it goes: how many were made");
        WornLines x = Check.told(FOUR);
        due("told, not begun", x.run(9), 0);
        due("told, not begun", x.state(0), 0);
        x.begin(0);
        due("just to the end", x.run(4), 4);
        due("the end", x.state(0), 2);
        due("behind the end", x.run(9), 0);
        x.fresh();
        x.begin(0);
        due("one less", x.run(3), 3);
        due("goes on", x.state(0), 1);
        due("one is left", x.run(2), 1);
        x.fresh();
        x.begin(2);
        due("just to the hole", x.run(7), 7);
        due("goes on", x.state(0), 1);
        due("none is left", x.run(2), 0);
        due("fallen", x.state(0), 3);
        due("behind the fall", x.run(9), 0);
    }

    private static void state() {
        CHECK.sentence("Of the machine, what 0: STATE, 1: the LINE that is next (NONE: nothing is BEGUN, the end), "
                + "2: STEPS, 3: how many were written; NONE for another what.");
        WornLines x = walked();
        due("state(0)", x.state(0), 1);
        due("state(1)", x.state(1), 1);
        due("state(2)", x.state(2), 5);
        due("state(3)", x.state(3), 1);
        for (int other : new int[] {LEAST, -1, 4, 5, GREATEST}) {
            due("state(" + other + ")", x.state(other), NONE);
            due("state(" + other + ") of a new object", new WornLines().state(other), NONE);
        }
        x.run(9);
        due("fallen: the hole", x.state(1), 3);
        x.fresh();
        x.begin(0);
        x.run(9);
        due("the end", x.state(1), NONE);
        due("steps behind the end", x.state(2), 4);
        due("written behind the end", x.state(3), 1);
        Check.programme(x, FOUR);
        due("nothing begun", x.state(1), NONE);
        due("nothing begun", x.state(2), 0);
        due("nothing begun", x.state(3), 0);
    }

    private static void cell() {
        CHECK.sentence("What a CELL is. NoSuchElementException: none such, nothing is BEGUN.");
        WornLines x = Check.told(FOUR);
        due("nothing is begun", Check.cell(x, 0), Check.THROWS);
        due("nothing is begun", Check.cell(x, 2), Check.THROWS);
        x.begin(3);
        due("begun", Check.cell(x, 0), 3);
        due("begun", Check.cell(x, 1), 2);
        for (int other : new int[] {LEAST, -1, 2, 5, 6, GREATEST}) {
            due("cell(" + other + ")", Check.cell(x, other), Check.THROWS);
        }
        x.run(99);
        due("fallen", x.state(0), 3);
        due("fallen", Check.cell(x, 0), 1);
        x.fresh();
        x.begin(0);
        x.run(99);
        due("the end", Check.cell(x, 0), -1);
        Check.programme(x, FOUR);
        due("nothing is begun any more", Check.cell(x, 0), Check.THROWS);
        WornLines y = Check.told(X + "line x halt;");
        y.begin(0);
        due("no cell at all", Check.cell(y, 0), Check.THROWS);
    }

    private static void wrote() {
        CHECK.sentence("The i-th that was written. NoSuchElementException: none such, none kept.");
        WornLines x = walked();
        due("from 0", Check.wrote(x, 0), 5);
        for (int other : new int[] {LEAST, -1, 1, 199, 200, GREATEST}) {
            due("wrote(" + other + ")", Check.wrote(x, other), Check.THROWS);
        }
        x.run(1);
        due("the next", Check.wrote(x, 1), 7);
        due("none such", Check.wrote(x, 2), Check.THROWS);
        x.begin(0);
        due("begun anew", Check.wrote(x, 0), Check.THROWS);
        WornLines y = Check.told(X + "line x write 0-1;line x go 0;");
        y.begin(0);
        y.run(2 * 201);
        due("written -1", Check.wrote(y, 199), -1);
        due("none kept", Check.wrote(y, 200), Check.THROWS);
        due("nothing begun", Check.wrote(new WornLines(), 0), Check.THROWS);
    }

    private static void fresh() {
        CHECK.sentence("All LINES are not worn any more: true.");
        WornLines x = walked();
        x.mark(0, false);
        due("fresh()", x.fresh(), true);
        for (int line = 0; line < 4; line++) {
            due("not worn, " + line, x.line(line, 4), 0);
        }
        due("twins stay", x.line(1, 2), 2);
        due("the machine stays", x.state(2), 5);
        due("the machine stays", Check.cell(x, 0), 2);
        due("fresh() again", x.fresh(), true);
        due("it goes on to the next hole", x.run(99), 6);
        x.mark(0, true);
        due("a mark is as worn as it was", x.line(0, 4), 2);
        due("without a line", new WornLines().fresh(), true);
    }

    private static void steps() {
        CHECK.sentence("By an INPUT, HARD: behind how many STEPS it ends or FALLS; NONE: no such one, no LINE, ENDLESS.");
        WornLines x = Check.told(FOUR);
        int[] steps = {4, 4, 7, 7, 7};
        for (int input = 0; input < 5; input++) {
            due("steps(" + input + ")", x.steps(input), steps[input]);
        }
        for (int other : new int[] {LEAST, -1, 5, 64, GREATEST}) {
            due("steps(" + other + ")", x.steps(other), NONE);
        }
        due("no line", Check.told("cell a 1;input a 0 1;").steps(1), NONE);
        due("endless", Check.told(ENDLESS).steps(1), NONE);
        due("the other ends", Check.told(ENDLESS).steps(0), 2);
    }

    private static void falls() {
        CHECK.sentence("The LINE at which an INPUT FALLS, HARD; NONE: likewise, it does not.");
        WornLines x = Check.told(FOUR);
        for (int input = 0; input < 5; input++) {
            due("falls(" + input + ")", x.falls(input), input < 2 ? NONE : 3);
        }
        for (int other : new int[] {LEAST, -1, 5, 64, GREATEST}) {
            due("falls(" + other + ")", x.falls(other), NONE);
        }
        due("no line", Check.told("cell a 1;input a 0 1;").falls(1), NONE);
        due("endless", Check.told(ENDLESS).falls(1), NONE);
        x.lay(3, 0, 4);
        due("it falls at line 0 now", x.falls(4), 0);
    }

    private static void most() {
        CHECK.sentence("MOST of a LINE, what 0: how often, 1: by which INPUT, 2: PEAK; NONE: others, "
                + "some INPUT is ENDLESS.");
        WornLines x = Check.told(FOUR);
        for (int line = 0; line < 4; line++) {
            due("how often", x.most(line, 0), 4);
            due("by which", x.most(line, 1), 4);
            due("peak", x.most(line, 2), 4);
        }
        for (int other : new int[] {LEAST, -1, 4, 16, GREATEST}) {
            due("most(" + other + ", 0)", x.most(other, 0), NONE);
            due("most(0, " + other + ")", x.most(0, other), NONE);
        }
        due("most(0, 3)", x.most(0, 3), NONE);
        due("some is endless", Check.told(ENDLESS).most(1, 0), NONE);
        due("no line", Check.told("cell a 1;").most(0, 0), NONE);
    }

    private static void never() {
        CHECK.sentence("NEVER as bits; NONE: no LINE, some INPUT is ENDLESS.");
        due("none", Check.told(FOUR).never(), 0);
        due("bit 1", Check.told(X + "line x go 2;line x halt;line x halt;").never(), 2);
        due("bits 1 to 15", Check.told(Check.with(X, 16, "line x halt;")).never(), 65534);
        due("no line", Check.told("cell a 1;").never(), NONE);
        due("some is endless", Check.told(ENDLESS).never(), NONE);
    }

    private static void first() {
        CHECK.sentence("FIRST, what 0: the INPUT, 1: STEPS, 2: the LINE; NONE: others, no INPUT FALLS.");
        WornLines x = Check.told(FOUR);
        due("the input", x.first(0), 2);
        due("steps", x.first(1), 7);
        due("the line", x.first(2), 3);
        for (int other : new int[] {LEAST, -1, 3, 4, GREATEST}) {
            due("first(" + other + ")", x.first(other), NONE);
        }
        for (int line = 0; line < 4; line++) {
            x.lay(line, 0, 4);
        }
        for (int what = 0; what < 3; what++) {
            due("none falls", x.first(what), NONE);
            due("no line", Check.told("cell a 1;").first(what), NONE);
            due("endless", Check.told(ENDLESS).first(what), NONE);
        }
    }

    private static void apart() {
        CHECK.sentence("APART; NONE: none, no LINE.");
        WornLines x = Check.told(FOUR);
        due("2 falls", x.falls(2), 3);
        due("but behind all that it writes, as 3 does not", x.apart(), 3);
        for (int line = 0; line < 4; line++) {
            x.lay(line, 0, 4);
        }
        due("none", x.apart(), NONE);
        due("no line", Check.told("cell a 1;input a 0 3;").apart(), NONE);
        due("endless", Check.told(ENDLESS).apart(), NONE);
    }

    private static void rounds() {
        CHECK.sentence("ROUNDS; NONE: no such INPUT, no LINE.");
        WornLines x = Check.told(FOUR);
        int[] rounds = {1, 1, 0, 0, 0};
        for (int input = 0; input < 5; input++) {
            due("rounds(" + input + ")", x.rounds(input), rounds[input]);
        }
        for (int other : new int[] {LEAST, -1, 5, 64, GREATEST}) {
            due("rounds(" + other + ")", x.rounds(other), NONE);
        }
        due("no line", Check.told("cell a 1;").rounds(0), NONE);
        due("endless", Check.told(ENDLESS).rounds(1), 0);
        due("the other", Check.told(ENDLESS).rounds(0), 100);
    }

    private static void lasting() {
        CHECK.sentence("LASTING: the cost; NONE: others, no LINE, some INPUT is ENDLESS, not within the room.");
        WornLines x = Check.told(FOUR);
        // Each line is worn 4 times: two of a for 10, or four of b for 28.
        due("within 8", x.lasting(8), 40);
        due("within 64", x.lasting(64), 40);
        due("not within 7", x.lasting(7), NONE);
        for (int other : new int[] {LEAST, -1, 0, 65, GREATEST}) {
            due("lasting(" + other + ")", x.lasting(other), NONE);
        }
        due("no line", Check.told("stuff a bears 1 costs 1;").lasting(64), NONE);
        due("some is endless", Check.told(ENDLESS).lasting(64), NONE);
        due("nothing bears it", Check.told("stuff a bears 1 costs 1;cell c 0;line a set c c+1;line a if c<5 go 0;")
                .lasting(64), NONE);
    }

    private static void lasts() {
        CHECK.sentence("Of a LINE as it is LASTING, what 0: its STUFF, 1: TWINS; NONE: others, as of lasting().");
        WornLines x = Check.told(FOUR);
        for (int line = 0; line < 4; line++) {
            due("stuff", x.lasts(8, line, 0), 0);
            due("twins", x.lasts(8, line, 1), 2);
            due("not within 7", x.lasts(7, line, 0), NONE);
        }
        for (int other : new int[] {LEAST, -1, 4, 16, GREATEST}) {
            due("line " + other, x.lasts(8, other, 0), NONE);
            due("what " + other, x.lasts(8, 0, other), NONE);
        }
        due("what 2", x.lasts(8, 0, 2), NONE);
        for (int other : new int[] {LEAST, -1, 0, 65, GREATEST}) {
            due("room " + other, x.lasts(other, 0, 0), NONE);
            due("room " + other, x.lasts(other, 0, 1), NONE);
        }
        due("no line", Check.told("stuff a bears 1 costs 1;").lasts(64, 0, 0), NONE);
        due("some is endless", Check.told(ENDLESS).lasts(64, 0, 0), NONE);
    }

    private static void better() {
        CHECK.sentence("BETTER MEND, what 0: the LINE, 1: how many STEPS then; NONE: others, "
                + "it neither goes on nor is FALLEN.");
        WornLines x = Check.told(FOUR);
        due("nothing begun", x.better(0), NONE);
        x.begin(3);
        due("all equal", x.better(0), 0);
        due("to the fall", x.better(1), 7);
        x.run(99);
        due("fallen", x.better(0), 3);
        due("mended it bears once more: 1 + 3", x.better(1), 4);
        for (int other : new int[] {LEAST, -1, 2, 3, GREATEST}) {
            due("better(" + other + ")", x.better(other), NONE);
        }
        x.fresh();
        x.begin(0);
        x.run(99);
        due("the end", x.better(0), NONE);
        due("the end", x.better(1), NONE);
        due("no line", new WornLines().better(1), NONE);
    }

    private static void same() {
        CHECK.sentence("SAME as that of a MARK: the first INPUT that is not; -1: it is; -2: nothing is on it, "
                + "others of INPUTS, no LINE in one.");
        WornLines x = Check.told(FOUR);
        for (int other : new int[] {LEAST, -2, -1, 4, GREATEST}) {
            due("same(" + other + ")", x.same(other), -2);
        }
        for (int mark = 0; mark < 4; mark++) {
            due("nothing on " + mark, x.same(mark), -2);
        }
        x.mark(3, false);
        due("it is", x.same(3), -1);
        due("nothing on 2", x.same(2), -2);
        Check.programme(x, FOUR.replace("write s", "write s+(4<s)"));
        due("1 writes 3, 2 writes 4, then 5", x.same(3), 2);
        Check.programme(x, FOUR.replace("0 4", "0 3"));
        due("others of inputs", x.same(3), -2);
        Check.programme(x, "cell n 0;input n 0 4;");
        due("no line here", x.same(3), -2);
        x.mark(0, false);
        x.mark(3, true);
        due("no line there", x.same(0), -2);
        due("it is again", x.same(3), -1);
    }

    private static void mark() {
        CHECK.sentence("A MARK is laid (back: gone back to): true; false: none such, nothing is on it (back).");
        WornLines x = walked();
        changesNothing("what is refused", x, y -> {
            for (int other : new int[] {LEAST, -1, 4, GREATEST}) {
                due("mark(" + other + ", false)", y.mark(other, false), false);
                due("mark(" + other + ", true)", y.mark(other, true), false);
            }
            for (int mark = 0; mark < 4; mark++) {
                due("nothing on " + mark, y.mark(mark, true), false);
            }
        });
        changesNothing("a mark laid and gone back to", x, y -> {
            due("laid", y.mark(1, false), true);
            due("back", y.mark(1, true), true);
        });
        for (int mark = 0; mark < 4; mark++) {
            due("on " + mark, x.mark(mark, true), mark == 1);
        }
    }

    private static void markOverMark() {
        CHECK.sentence("A MARK is laid (back: gone back to): true");
        WornLines x = new WornLines();
        due("nothing at all is marked", x.mark(0, false), true);
        Check.programme(x, FOUR);
        due("told, not begun", x.mark(1, false), true);
        x.begin(2);
        x.run(99);
        due("fallen", x.mark(2, false), true);
        x.begin(4);
        x.run(2);
        due("over another", x.mark(2, false), true);
        x.begin(0);
        due("back", x.mark(2, true), true);
        due("the later one", Check.cell(x, 0), 4);
        due("the later one", x.state(2), 2);
        due("back", x.mark(1, true), true);
        due("nothing begun", x.state(0), 0);
        due("nothing begun", Check.cell(x, 0), Check.THROWS);
        due("nothing worn", x.line(0, 4), 0);
        due("back", x.mark(0, true), true);
        due("no line", x.count(3), 0);
        due("no stuff", x.count(0), 0);
        due("no line", x.begin(0), false);
        due("the marks stay", x.mark(2, true), true);
        due("the marks stay", x.count(3), 4);
    }

    private static void count() {
        CHECK.sentence("What 0: STUFFS, 1: CELLS, 2: inputs, 3: LINES, 4: signs on the TAPE. NONE for another what.");
        WornLines x = Check.told("stuff a bears 1 costs 1;stuff b bears 1 costs 1;stuff c bears 1 costs 1;"
                + "stuff d bears 1 costs 1;cell e 1;cell f 1;cell g 1;cell h 1;cell i 1;cell j 1;input e 0 7;input f 0 7;"
                + Check.with("", 16, "line d halt;"));
        int[] most = {4, 6, 2, 16, 0};
        for (int what = 0; what < 5; what++) {
            due("count(" + what + ")", x.count(what), most[what]);
            due("count(" + what + ") of none", Check.told("").count(what), 0);
        }
        for (int other : new int[] {LEAST, -1, 5, 6, GREATEST}) {
            due("count(" + other + ")", x.count(other), NONE);
        }
        Check.feed(x, Check.with("", 1000, ";"));
        due("1,000 signs", x.count(4), 1000);
        due("inputs, not INPUTS", x.count(2), 2);
    }

    private static void askingChangesNothing() {
        CHECK.sentence("For all that is asked below a run begins unworn, LAID as it is now");
        WornLines x = walked();
        x.mark(0, false);
        Check.feed(x, "cell");
        changesNothing("all that is asked", x, y -> {
            for (int what = 0; what < 3; what++) {
                y.steps(what);
                y.falls(what);
                y.most(what, what);
                y.first(what);
                y.rounds(what);
                y.lasts(64, what, 1);
                y.better(what);
            }
            y.never();
            y.apart();
            y.lasting(64);
            y.same(0);
            y.stuff(0, 0);
            y.input(0, 0);
        });
        due("it goes on", x.run(99), 2);
        due("as far as it would", x.state(1), 3);
    }

    private static int ask(WornLines x, int which) {
        switch (which) {
            case 0: return x.steps(2);
            case 1: return x.falls(3);
            case 2: return x.most(0, 2);
            case 3: return x.never();
            case 4: return x.first(1);
            case 5: return x.apart();
            case 6: return x.rounds(1);
            case 7: return x.lasting(9);
            case 8: return x.lasts(9, 3, 1);
            case 9: return x.better(1);
            case 10: return x.same(0);
            default: return x.same(1);
        }
    }

    private static void askedInAnyOrder() {
        CHECK.sentence("For all that is asked below a run begins unworn, LAID as it is now");
        int[] answers = {7, 3, 4, 0, 7, 3, 1, 40, 2, 6, -1, 0};
        for (int one = 0; one < answers.length; one++) {
            for (int other = 0; other < answers.length; other++) {
                WornLines x = Check.told(FOUR.replace("write s", "write 9"));
                x.mark(1, false);
                Check.programme(x, FOUR);
                x.lay(1, 0, 2);
                x.begin(3);
                x.run(5);
                x.mark(0, false);
                due("asked " + one, ask(x, one), answers[one]);
                due("asked " + other + " behind " + one, ask(x, other), answers[other]);
                due("asked " + one + " again", ask(x, one), answers[one]);
            }
        }
    }

    /** Each begins anew: what was read for the others takes none of its room. */
    private static void manyProgrammes() {
        CHECK.sentence("The TAPE is read as a PROGRAMME: 0, or its FAULT (all stays then).");
        WornLines x = new WornLines();
        String ones = X + Check.with("line x write 1", 30, "+1") + ";";
        for (int i = 0; i < 40; i++) {
            due("programme " + i, Check.programme(x, i % 2 == 0 ? ones : ones + ";"), i % 2 == 0 ? 0 : 1 + 16 * 102);
            x.begin(0);
            due("run", x.run(9), 1);
            due("31", Check.wrote(x, 0), 31);
        }
    }
}
