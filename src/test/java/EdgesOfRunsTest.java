/** ==== 2 and ==== 3 of the document: each sentence that names a boundary case, by a test of its own. */
public final class EdgesOfRunsTest {
    private static final Check CHECK = new Check();
    private static final int NONE = WornLines.NONE;
    private static final int LEAST = Integer.MIN_VALUE;
    private static final int GREATEST = Integer.MAX_VALUE;
    private static final int MILLION = 1000000;
    private static final String X = "stuff x bears 9999 costs 1;";
    private static final String XC = X + "cell c 7;";
    /** Its lines are mended in turn, so that nothing gives within 1,000,000 steps. */
    private static final String LONG = X + "cell k 0;line x mend k by 9999;line x set k k+1;line x go 0;";

    public static void main(String[] args) {
        numbered();
        inputZeroAlone();
        begun();
        oneMoreWorn();
        firstTwoHundred();
        set();
        goAndIf();
        call();
        mend();
        mendItself();
        halt();
        behindTheLast();
        workedAhead();
        bearing();
        hard();
        fallsWithoutTheStep();
        soft();
        plain();
        million();
        millionInParts();
        millionAndTheEnd();
        millionAndAHole();
        states();
        fallenStays();
        fallenTillBegunAnew();
        holeShowsWhenWorked();
        beginsUnworn();
        laidAsItIsNow();
        withinThousand();
        CHECK.end();
    }

    private static void due(String call, long got, long want) {
        CHECK.due(call, got, want);
    }

    private static WornLines begun(String text) {
        WornLines x = Check.told(text);
        due("begin(0) of " + text, x.begin(0) ? 1 : 0, 1);
        return x;
    }

    private static void machine(WornLines x, int state, int next, int steps, int written) {
        due("state", x.state(0), state);
        due("next", x.state(1), next);
        due("steps", x.state(2), steps);
        due("written", x.state(3), written);
    }

    private static void numbered() {
        CHECK.sentence("INPUTS are numbered: the last input told changes first (from its least on).");
        WornLines x = Check.told("cell a 1;cell b 2;cell c 3;input c 4 6;input a 8 9;");
        int[] c = {4, 4, 5, 5, 6, 6};
        int[] a = {8, 9, 8, 9, 8, 9};
        for (int input = 0; input < 6; input++) {
            due("the first told, " + input, x.input(input, 2), c[input]);
            due("the last told, " + input, x.input(input, 0), a[input]);
            due("no input, " + input, x.input(input, 1), 2);
        }
        WornLines y = Check.told("cell a 1;cell b 2;input a 0 7;input b 2 9;");
        for (int input = 0; input < 64; input++) {
            due("8 with 8", y.input(input, 0), input / 8);
            due("8 with 8", y.input(input, 1), 2 + input % 8);
        }
        WornLines z = Check.told("cell a 1;input a 9936 9999;");
        due("the first of 64", z.input(0, 0), 9936);
        due("the last of 64", z.input(63, 0), 9999);
        WornLines w = Check.told("cell a 1;cell b 2;input a 5 5;input b 0 63;");
        due("1 with 64", w.input(63, 1), 63);
        due("1 with 64", w.input(63, 0), 5);
        WornLines v = Check.told("cell a 1;cell b 2;input a 0 63;input b 5 5;");
        due("64 with 1", v.input(63, 0), 63);
        due("64 with 1", v.input(63, 1), 5);
    }

    private static void inputZeroAlone() {
        CHECK.sentence("Without an input there is INPUT 0 alone.");
        WornLines x = Check.told(XC + "line x halt;");
        due("inputs()", x.inputs(), 1);
        due("input(0, 0)", x.input(0, 0), 7);
        due("input(1, 0)", x.input(1, 0), NONE);
        due("begin(1)", x.begin(1) ? 1 : 0, 0);
        due("begin(0)", x.begin(0) ? 1 : 0, 1);
        due("steps(0)", x.steps(0), 1);
        due("steps(1)", x.steps(1), NONE);
        due("rounds(1)", x.rounds(1), NONE);
        due("most(0, 1)", x.most(0, 1), 0);
        due("a new object", new WornLines().inputs(), 1);
        due("an input of one number", Check.told("cell a 1;input a 5 5;").inputs(), 1);
    }

    private static void begun() {
        CHECK.sentence("BEGUN with an INPUT: CELLS as told, inputs as the INPUT has them, LINE 0 is next, "
                + "nothing is written, no STEP made; what is worn stays.");
        WornLines x = Check.told(XC + "cell d 5;input d 2 3;line x set c c+d;line x set d 9;line x write c;line x halt;");
        x.begin(1);
        due("run(3)", x.run(3), 3);
        machine(x, 1, 3, 3, 1);
        due("begin(0)", x.begin(0) ? 1 : 0, 1);
        machine(x, 1, 0, 0, 0);
        due("as told", Check.cell(x, 0), 7);
        due("as the input has it", Check.cell(x, 1), 2);
        due("nothing written", Check.wrote(x, 0), Check.THROWS);
        for (int line = 0; line < 4; line++) {
            due("worn stays, " + line, x.line(line, 4), line < 3 ? 1 : 0);
        }
        x.begin(1);
        due("begun twice", Check.cell(x, 1), 3);
        machine(x, 1, 0, 0, 0);
        x.run(9);
        machine(x, 2, NONE, 4, 1);
        x.begin(1);
        machine(x, 1, 0, 0, 0);
        due("worn stays", x.line(3, 4), 1);
    }

    private static void oneMoreWorn() {
        CHECK.sentence("A STEP works the LINE that is next. It is one more worn, then its ACT");
        WornLines x = begun(XC + "line x set c 1;line x write 1;line x go 3;line x if 0 go 0;line x call 5 keep c;"
                + "line x mend 0 by 0;line x halt;");
        for (int line = 0; line < 7; line++) {
            due("next", x.state(1), line);
            due("not worn yet, " + line, x.line(line, 4), 0);
            due("run(1)", x.run(1), 1);
            due("one more worn, " + line, x.line(line, 4), 1);
            due("steps", x.state(2), line + 1);
        }
        due("the end", x.state(0), 2);
    }

    private static void firstTwoHundred() {
        CHECK.sentence("write: E is written (the first 200 are kept)");
        WornLines x = begun(XC + "line x write c;line x set c c+1;line x go 0;");
        x.run(3 * 199);
        due("199 written", x.state(3), 199);
        due("the last of 199", Check.wrote(x, 198), 7 + 198);
        due("none yet", Check.wrote(x, 199), Check.THROWS);
        x.run(3);
        due("200 written", x.state(3), 200);
        due("the 200th", Check.wrote(x, 199), 7 + 199);
        due("none yet", Check.wrote(x, 200), Check.THROWS);
        x.run(3);
        due("201 written", x.state(3), 201);
        due("the 200th stays", Check.wrote(x, 199), 7 + 199);
        due("the first stays", Check.wrote(x, 0), 7);
        due("the 201st is not kept", Check.wrote(x, 200), Check.THROWS);
        x.run(3 * 900);
        due("more are counted", x.state(3), 1101);
        due("none of them kept", Check.wrote(x, 1100), Check.THROWS);
        due("none of them kept", Check.wrote(x, 200), Check.THROWS);
        due("the first 200 stay", Check.wrote(x, 100), 107);
    }

    private static void set() {
        CHECK.sentence("set: the CELL is E");
        for (int number : new int[] {0, 9999, -1, -9999, LEAST, GREATEST}) {
            WornLines x = begun(XC + "line x set c " + Check.spelled(number) + ";line x write c;line x halt;");
            x.run(2);
            due("cell is " + number, Check.cell(x, 0), number);
            due("written is " + number, Check.wrote(x, 0), number);
        }
        WornLines y = begun(XC + "cell d 3;line x set d c;line x set c d*d;line x halt;");
        y.run(2);
        due("the other cell", Check.cell(y, 1), 7);
        due("by the other cell", Check.cell(y, 0), 49);
    }

    private static void goAndIf() {
        CHECK.sentence("go: the LINE of E is next; if: the LINE of the second E, if the first is not 0");
        for (int first : new int[] {0, 1, 2, -1, LEAST, GREATEST}) {
            WornLines x = begun(XC + "line x if " + Check.spelled(first) + " go 2;line x halt;line x halt;");
            x.run(1);
            due("if " + first, x.state(1), first == 0 ? 1 : 2);
        }
        WornLines y = begun(X + "line x go 0;");
        y.run(1);
        due("go to itself", y.state(1), 0);
        due("goes on", y.state(0), 1);
        WornLines z = begun(X + "line x go 1;line x if 1 go 0;");
        z.run(2);
        due("back", z.state(1), 0);
        due("goes on", z.state(0), 1);
    }

    private static void call() {
        CHECK.sentence("call: the CELL is the number of the next LINE (as it stands, it may be that of none), "
                + "the LINE of E is next");
        WornLines x = begun(XC + "line x call 2 keep c;line x halt;line x call 0 keep c;");
        x.run(1);
        due("the next line", Check.cell(x, 0), 1);
        due("next", x.state(1), 2);
        x.run(1);
        due("that of none", Check.cell(x, 0), 3);
        due("it is no end", x.state(0), 1);
        due("next", x.state(1), 0);
        WornLines y = begun(XC + "line x call 0 keep c;");
        y.run(1);
        due("of one line alone", Check.cell(y, 0), 1);
        due("itself is next", y.state(1), 0);
        WornLines z = begun(Check.with(XC, 15, "line x go 15;") + "line x call 0 keep c;");
        z.run(2);
        due("16 of 16 is that of none", Check.cell(z, 0), 16);
        due("next", z.state(1), 0);
        // To go by it is modulo the lines: back to 0.
        WornLines w = begun(XC + "line x call 1 keep c;line x call 2 keep c;line x call 3 keep c;line x call c keep c;");
        w.run(4);
        due("that of none", Check.cell(w, 0), 4);
        due("by the cell as it was", w.state(1), 3);
        w.run(1);
        due("4 is 0 of 4", w.state(1), 0);
    }

    private static void mend() {
        CHECK.sentence("mend: the LINE of the first E is by the second E less worn "
                + "(not below 0; nothing if the second is not above 0)");
        int[] by = {LEAST, -9999, -1, 0, 1, 4, 5, 6, 9999, GREATEST};
        int[] left = {5, 5, 5, 5, 4, 1, 0, 0, 0, 0};
        for (int i = 0; i < by.length; i++) {
            WornLines x = begun(XC + "line x if worn 0<5 go 0;line x mend 0 by " + Check.spelled(by[i]) + ";line x halt;");
            x.run(5);
            due("worn 5", x.line(0, 4), 5);
            x.run(1);
            due("by " + by[i], x.line(0, 4), left[i]);
            due("mend itself is worn", x.line(1, 4), 1);
            due("the next is next", x.state(1), 2);
        }
        WornLines y = begun(X + "line x mend 1 by 9999;line x halt;");
        y.run(1);
        due("an unworn line stays so", y.line(1, 4), 0);
    }

    private static void mendItself() {
        CHECK.sentence("mend: the LINE of the first E is by the second E less worn "
                + "(not below 0; nothing if the second is not above 0)");
        WornLines x = begun("stuff x bears 1 costs 1;line x mend 0 by 1;line x mend 1 by 0;");
        x.run(1);
        due("it was worn, and is not", x.line(0, 4), 0);
        x.run(1);
        due("by 0", x.line(1, 4), 1);
        due("the end", x.state(0), 2);
        x.begin(0);
        due("the second is a hole now", x.run(9), 1);
        machine(x, 3, 1, 1, 0);
    }

    private static void halt() {
        CHECK.sentence("halt: the end.");
        WornLines x = begun(XC + "line x halt;line x write 1;");
        due("run(9)", x.run(9), 1);
        machine(x, 2, NONE, 1, 0);
        due("it is worn", x.line(0, 4), 1);
        due("the next is not", x.line(1, 4), 0);
        due("no more", x.run(1), 0);
        due("no more", x.run(MILLION), 0);
        machine(x, 2, NONE, 1, 0);
        due("cells stay", Check.cell(x, 0), 7);
    }

    private static void behindTheLast() {
        CHECK.sentence("Else the next LINE is next; behind the last one it is the end.");
        String[] lasts = {"set c 1", "write 1", "if 0 go 0", "mend 0 by 1"};
        for (String last : lasts) {
            WornLines x = begun(XC + "line x write 5;line x " + last + ";");
            x.run(1);
            machine(x, 1, 1, 1, 1);
            x.run(1);
            due("behind " + last, x.state(0), 2);
            due("behind " + last, x.state(1), NONE);
            due("behind " + last, x.state(2), 2);
            due("behind " + last, x.run(1), 0);
        }
        WornLines y = begun(Check.with(X, 16, "line x write 1;"));
        due("16 lines", y.run(99), 16);
        machine(y, 2, NONE, 16, 16);
        for (String last : new String[] {"go 0", "if 1 go 0", "call 0 keep c", "go 2", "go 0-2"}) {
            WornLines z = begun(XC + "line x write 5;line x " + last + ";");
            z.run(2);
            due("not behind " + last, z.state(0), 1);
            due("not behind " + last, z.state(1), 0);
        }
    }

    private static void workedAhead() {
        CHECK.sentence("All E of a LINE are worked ahead of what it does, from the left, when it is worn already.");
        WornLines x = begun(XC + "line x set c worn 0;line x write worn 1;line x mend 2 by worn 2;line x go worn 3+3;"
                + "line x if worn 4=1 go worn 4+5;line x halt;line x call worn 6+6 keep c;line x mend worn 7+6 by 9;");
        x.run(1);
        due("set, worn already", Check.cell(x, 0), 1);
        x.run(1);
        due("write, worn already", Check.wrote(x, 0), 1);
        x.run(1);
        due("mend by how worn it is", x.line(2, 4), 0);
        x.run(1);
        due("go, worn already", x.state(1), 4);
        x.run(1);
        due("if, worn already", x.state(1), 6);
        x.run(1);
        due("call, worn already", x.state(1), 7);
        due("call keeps", Check.cell(x, 0), 7);
        x.run(1);
        due("mend of itself, worn already", x.line(7, 4), 0);
        WornLines y = begun(XC + "line x call c-6 keep c;line x set c c*c-c;line x halt;");
        y.run(1);
        due("call by the cell as it was", y.state(1), 1);
        due("call keeps", Check.cell(y, 0), 1);
        WornLines z = begun(XC + "line x set c c*c-c;line x halt;");
        z.run(1);
        due("set by the cell as it was", Check.cell(z, 0), 42);
    }

    private static void bearing() {
        CHECK.sentence("A LINE BEARS what its STUFF bears, times its TWINS.");
        WornLines x = Check.told("stuff a bears 1 costs 1;stuff b bears 9999 costs 1;line a go 0;");
        for (int twins = 1; twins <= 4; twins++) {
            x.lay(0, 0, twins);
            due("1 * " + twins, x.line(0, 3), twins);
            due("steps", x.steps(0), twins);
            x.lay(0, 1, twins);
            due("9999 * " + twins, x.line(0, 3), 9999 * twins);
            x.begin(0);
            due("it bears so much", x.run(MILLION), 9999 * twins);
            due("fallen", x.state(0), 3);
        }
    }

    private static void hard() {
        CHECK.sentence("HARD: a LINE that is as worn as it BEARS (or more) when it is to be worked is a HOLE");
        WornLines x = begun("stuff a bears 3 costs 1;line a go 0;");
        x.run(2);
        due("worn 2 of 3", x.line(0, 4), 2);
        due("it bears the third", x.run(1), 1);
        due("worn 3 of 3", x.line(0, 4), 3);
        due("goes on, for it is not yet to be worked", x.state(0), 1);
        due("not a fourth", x.run(1), 0);
        due("fallen", x.state(0), 3);
        WornLines y = begun("stuff a bears 1 costs 1;line a write 1;line a go 0;");
        due("once each", y.run(9), 2);
        machine(y, 3, 0, 2, 1);
        y.begin(0);
        due("begun at a hole", y.state(0), 1);
        due("no step", y.run(1), 0);
        machine(y, 3, 0, 0, 0);
    }

    private static void fallsWithoutTheStep() {
        CHECK.sentence("the machine FALLS there, without the STEP.");
        WornLines x = begun("stuff a bears 1 costs 1;stuff b bears 9 costs 1;cell c 0;"
                + "line a set c c+1;line b write c;line b go 0;");
        due("run(9)", x.run(9), 3);
        machine(x, 3, 0, 3, 1);
        due("no more worn", x.line(0, 4), 1);
        due("its act is not done", Check.cell(x, 0), 1);
        due("what was written stays", Check.wrote(x, 0), 1);
        due("run(9) again", x.run(9), 0);
        machine(x, 3, 0, 3, 1);
        due("no more worn", x.line(0, 4), 1);
    }

    private static void soft() {
        CHECK.sentence("SOFT: there are no HOLES.");
        WornLines x = Check.told("stuff a bears 1 costs 1;cell c 0;line a set c c+1;line a if c<500 go 0;");
        due("hard it falls", x.falls(0), 0);
        due("hard it falls", x.steps(0), 2);
        due("soft it goes over it", x.most(0, 0), 500);
        due("soft it is worn", x.most(1, 2), 500);
        due("soft it ends", x.never(), 0);
        WornLines y = Check.told("stuff a bears 1 costs 1;cell c 0;line a if worn 0<9 go 0;line a write 1;line a halt;");
        due("worn is how worn it is", y.most(0, 0), 9);
        due("mend works", Check.told("stuff a bears 1 costs 1;cell c 0;line a set c c+1;line a mend 0 by 1;"
                + "line a if c<9 go 0;").most(0, 2), 1);
    }

    private static void plain() {
        CHECK.sentence("PLAIN: nothing is worn, ever (worn is 0), mend does nothing.");
        WornLines x = Check.told(X + "line x write worn 0;line x write worn 1;line x write worn 2;");
        x.mark(0, false);
        Check.programme(x, X + "line x write 0;line x write 0;line x write 0;");
        due("worn is 0", x.same(0), -1);
        x.mark(1, false);
        x.mark(0, true);
        due("the other way round", x.same(1), -1);
        x.begin(0);
        x.run(3);
        due("by hand it is worn", Check.wrote(x, 0), 1);
        due("worn by hand is nothing to it", x.same(1), -1);
        Check.programme(x, "stuff a bears 1 costs 1;cell c 0;line a set c c+1;line a mend 0 by 0-1;line a mend c by 9;"
                + "line a if c<200 go 0;line a write worn 0+worn 1+worn 2+worn 3;line a write 0;line a write 0;");
        due("no hole, nothing worn, nothing mended", x.same(1), -1);
        due("ever", Check.told(X + "cell c 0;line x if worn 0 go 2;line x go 0;line x write 1;").apart(), 0);
    }

    private static void million() {
        CHECK.sentence("By hand the machine goes HARD, its STEPS 1,000,000 at most in all (it is SPENT then).");
        WornLines x = begun(LONG);
        due("run(1,000,000)", x.run(MILLION), MILLION);
        machine(x, 4, 1, MILLION, 0);
        due("no more", x.run(1), 0);
        due("no more", x.run(MILLION), 0);
        machine(x, 4, 1, MILLION, 0);
        due("cells stay", Check.cell(x, 0), 333333);
        x.fresh();
        x.lay(0, 0, 4);
        due("fresh, laid anew, it is still spent", x.run(1), 0);
        machine(x, 4, 1, MILLION, 0);
        due("begin(1)", x.begin(1) ? 1 : 0, 0);
        due("a refused begin", x.state(0), 4);
        due("begin(0)", x.begin(0) ? 1 : 0, 1);
        machine(x, 1, 0, 0, 0);
        due("begun anew it has as many again", x.run(MILLION), MILLION);
        due("spent again", x.state(0), 4);
    }

    private static void millionInParts() {
        CHECK.sentence("By hand the machine goes HARD, its STEPS 1,000,000 at most in all (it is SPENT then).");
        WornLines x = begun(LONG);
        due("999,999", x.run(999999), 999999);
        machine(x, 1, 0, 999999, 0);
        due("none", x.run(0), 0);
        machine(x, 1, 0, 999999, 0);
        due("the last", x.run(1), 1);
        machine(x, 4, 1, MILLION, 0);
        due("none", x.run(0), 0);
        due("none", x.run(1), 0);
        x.begin(0);
        due("600,000", x.run(600000), 600000);
        due("400,000 are left", x.run(600000), 400000);
        machine(x, 4, 1, MILLION, 0);
        x.begin(0);
        due("500,000", x.run(500000), 500000);
        x.mark(0, false);
        due("500,000", x.run(500000), 500000);
        due("spent", x.state(0), 4);
        x.mark(0, true);
        machine(x, 1, 500000 % 3, 500000, 0);
        due("as many are left", x.run(MILLION), 500000);
    }

    private static void millionAndTheEnd() {
        CHECK.sentence("By hand the machine goes HARD, its STEPS 1,000,000 at most in all (it is SPENT then).");
        String ends = X + "cell k 0;line x mend k by 9999;line x set k k+1;line x if k<333*1001 go 0;";
        WornLines x = begun(ends);
        due("the end by step 999,999", x.run(MILLION), 999999);
        machine(x, 2, NONE, 999999, 0);
        WornLines y = begun(ends + "line x halt;");
        due("the end by step 1,000,000", y.run(MILLION), MILLION);
        machine(y, 2, NONE, MILLION, 0);
        WornLines z = begun(ends + "line x write 5;line x halt;");
        due("the end would be by step 1,000,001", z.run(MILLION), MILLION);
        machine(z, 4, 4, MILLION, 1);
        due("what was written stays", Check.wrote(z, 0), 5);
    }

    private static void millionAndAHole() {
        CHECK.sentence("By hand the machine goes HARD, its STEPS 1,000,000 at most in all (it is SPENT then).");
        WornLines x = begun(LONG + "stuff y bears 1 costs 1;");
        x.run(999996);
        x.lay(0, 1, 1);
        due("step 999,997 wears line 0 out", x.run(3), 3);
        machine(x, 1, 0, 999999, 0);
        due("there is no step 1,000,000", x.run(9), 0);
        machine(x, 3, 0, 999999, 0);
        WornLines y = begun(LONG + "stuff y bears 1 costs 1;");
        y.run(999997);
        y.lay(1, 1, 1);
        due("step 999,998 wears line 1 out", y.run(2), 2);
        due("step 1,000,000 goes to line 1", y.run(9), 1);
        due("line 1 is as worn as it bears", y.line(1, 4), y.line(1, 3));
        machine(y, 4, 1, MILLION, 0);
        due("it is spent ahead of the hole", y.run(1), 0);
        machine(y, 4, 1, MILLION, 0);
    }

    private static void states() {
        CHECK.sentence("STATE: 0 nothing BEGUN, 1 goes on, 2 the end, 3 FALLEN (it stays so till it is BEGUN anew), "
                + "4 SPENT.");
        WornLines x = new WornLines();
        machine(x, 0, NONE, 0, 0);
        Check.programme(x, LONG);
        machine(x, 0, NONE, 0, 0);
        x.run(5);
        machine(x, 0, NONE, 0, 0);
        x.begin(0);
        machine(x, 1, 0, 0, 0);
        x.run(MILLION);
        machine(x, 4, 1, MILLION, 0);
        Check.programme(x, "stuff a bears 1 costs 1;line a write 1;line a go 0;");
        machine(x, 0, NONE, 0, 0);
        x.begin(0);
        x.run(3);
        machine(x, 3, 0, 2, 1);
        Check.programme(x, "stuff a bears 1 costs 1;line a write 1;");
        machine(x, 0, NONE, 0, 0);
        x.begin(0);
        x.run(1);
        machine(x, 2, NONE, 1, 1);
    }

    private static WornLines fallen() {
        WornLines x = begun("stuff a bears 1 costs 1;stuff b bears 5 costs 1;line b write 1;line a write 2;line b go 1;");
        x.run(9);
        machine(x, 3, 1, 3, 2);
        return x;
    }

    private static void fallenStays() {
        CHECK.sentence("3 FALLEN (it stays so till it is BEGUN anew)");
        WornLines x = fallen();
        due("run", x.run(9), 0);
        machine(x, 3, 1, 3, 2);
        due("run(0)", x.run(0), 0);
        due("fresh", x.fresh() ? 1 : 0, 1);
        machine(x, 3, 1, 3, 2);
        due("run, though no hole is left", x.run(9), 0);
        machine(x, 3, 1, 3, 2);
        due("lay", x.lay(1, 1, 4) ? 1 : 0, 1);
        due("run, though laid anew", x.run(9), 0);
        machine(x, 3, 1, 3, 2);
        due("a refused begin", x.begin(1) ? 1 : 0, 0);
        machine(x, 3, 1, 3, 2);
        due("a refused run", x.run(-1), NONE);
        machine(x, 3, 1, 3, 2);
        due("a refused programme", Check.programme(x, "#"), 1);
        machine(x, 3, 1, 3, 2);
        due("a refused mark", x.mark(0, true) ? 1 : 0, 0);
        machine(x, 3, 1, 3, 2);
        due("asked about", x.steps(0), 12);
        due("asked about", x.better(1), 11);
        machine(x, 3, 1, 3, 2);
        due("written stays", Check.wrote(x, 1), 2);
    }

    private static void fallenTillBegunAnew() {
        CHECK.sentence("3 FALLEN (it stays so till it is BEGUN anew)");
        WornLines x = fallen();
        due("begin(0)", x.begin(0) ? 1 : 0, 1);
        machine(x, 1, 0, 0, 0);
        due("what is worn stays, so it falls again", x.run(9), 1);
        machine(x, 3, 1, 1, 1);
        x.fresh();
        x.begin(0);
        due("mended and begun", x.run(9), 3);
        x.mark(3, false);
        Check.programme(x, X + "line x halt;");
        machine(x, 0, NONE, 0, 0);
        x.mark(3, true);
        machine(x, 3, 1, 3, 2);
        due("a mark of it is fallen, too", x.run(1), 0);
    }

    private static void holeShowsWhenWorked() {
        CHECK.sentence("That the LINE that is next is a HOLE shows when it is to be worked.");
        WornLines x = begun("stuff a bears 2 costs 1;stuff b bears 9 costs 1;line a go 1;line b go 0;");
        due("run(4)", x.run(4), 4);
        machine(x, 1, 0, 4, 0);
        due("worn as it bears", x.line(0, 4), 2);
        due("run(0)", x.run(0), 0);
        machine(x, 1, 0, 4, 0);
        x.mark(0, false);
        due("run(1)", x.run(1), 0);
        machine(x, 3, 0, 4, 0);
        x.mark(0, true);
        machine(x, 1, 0, 4, 0);
        due("laid anew ahead of it", x.lay(0, 1, 1) ? 1 : 0, 1);
        due("there is no hole", x.run(1), 1);
        machine(x, 1, 1, 5, 0);
        x.mark(0, true);
        x.fresh();
        due("fresh ahead of it", x.run(4), 4);
        machine(x, 1, 0, 8, 0);
        x.mark(0, true);
        x.begin(0);
        machine(x, 1, 0, 0, 0);
        due("begun at a hole, it shows by a step", x.run(1), 0);
        machine(x, 3, 0, 0, 0);
    }

    private static void beginsUnworn() {
        CHECK.sentence("For all that is asked below a run begins unworn");
        String text = "stuff a bears 5 costs 1;cell c 0;input c 0 1;line a write worn 1;line a set c c+1;line a if c<3 go 0;";
        WornLines x = Check.told(text);
        WornLines y = Check.told(text);
        y.begin(0);
        y.run(8);
        due("worn by hand", y.line(0, 4), 3);
        for (int input = 0; input < 2; input++) {
            due("steps", y.steps(input), x.steps(input));
            due("falls", y.falls(input), x.falls(input));
            due("rounds", y.rounds(input), x.rounds(input));
        }
        for (int line = 0; line < 3; line++) {
            due("most", y.most(line, 0), x.most(line, 0));
            due("peak", y.most(line, 2), x.most(line, 2));
        }
        due("steps", y.steps(0), 9);
        due("rounds", y.rounds(0), 1);
        due("most", y.most(0, 2), 3);
        due("first", y.first(0), NONE);
        due("apart", y.apart(), 0);
        due("lasting", y.lasting(3), 3);
        due("what is worn by hand stays", y.line(0, 4), 3);
        machine(y, 1, 2, 8, 3);
        due("one at a time", y.steps(0), 9);
        due("one at a time", y.steps(0), 9);
    }

    private static void laidAsItIsNow() {
        CHECK.sentence("For all that is asked below a run begins unworn, LAID as it is now");
        WornLines x = Check.told("stuff a bears 1 costs 1;stuff b bears 3 costs 1;cell c 0;"
                + "line a set c c+1;line a if c<3 go 0;line a write 1;");
        due("as told", x.steps(0), 2);
        due("as told", x.falls(0), 0);
        due("as told", x.first(1), 2);
        due("as told", x.apart(), 0);
        due("as told", x.rounds(0), 0);
        x.lay(0, 1, 1);
        due("laid anew", x.steps(0), 3);
        due("laid anew", x.falls(0), 1);
        due("laid anew", x.first(2), 1);
        x.lay(1, 0, 3);
        due("laid with twins", x.steps(0), 7);
        due("laid with twins", x.falls(0), NONE);
        due("laid with twins", x.first(0), NONE);
        due("laid with twins", x.apart(), NONE);
        due("laid with twins", x.rounds(0), 1);
        x.lay(2, 1, 4);
        x.lay(0, 1, 4);
        x.lay(1, 1, 4);
        due("laid with more", x.rounds(0), 4);
    }

    private static void withinThousand() {
        CHECK.sentence("is asked about if it ends (or FALLS) within 1,000 STEPS: else it is ENDLESS.");
        String two = X + "cell c 0;line x set c c+1;line x if c<";
        due("ends by 998", Check.told(two + "499 go 0;").steps(0), 998);
        due("ends by 999", Check.told(two + "499 go 0;line x halt;").steps(0), 999);
        due("ends by 1,000", Check.told(two + "500 go 0;").steps(0), 1000);
        due("ends by 1,001", Check.told(two + "500 go 0;line x halt;").steps(0), NONE);
        due("ends by 1,002", Check.told(two + "501 go 0;").steps(0), NONE);
        for (int bears = 998; bears <= 1002; bears++) {
            WornLines x = Check.told("stuff a bears " + bears + " costs 1;line a go 0;");
            due("falls behind " + bears, x.steps(0), bears <= 1000 ? bears : NONE);
            due("falls behind " + bears, x.falls(0), bears <= 1000 ? 0 : NONE);
        }
        due("soft it ends by 1,000", Check.told(two + "500 go 0;").never(), 0);
        due("soft it ends by 1,001", Check.told(two + "500 go 0;line x halt;").never(), NONE);
        WornLines y = Check.told("stuff a bears 500 costs 1;stuff x bears 9999 costs 1;cell c 0;"
                + "line a set c c+1;line x if c<501 go 0;");
        due("behind 1,000 a hole", y.steps(0), 1000);
        due("behind 1,000 a hole", y.falls(0), 0);
        due("where soft there is none", y.never(), NONE);
    }
}
