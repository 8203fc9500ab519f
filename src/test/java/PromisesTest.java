/** Each promise of the document, by answers worked out by hand. */
public final class PromisesTest {
    private static final Check CHECK = new Check();
    private static final int NONE = WornLines.NONE;
    private static final int LEAST = Integer.MIN_VALUE;
    private static final int GREATEST = Integer.MAX_VALUE;

    /** Writes the sum of n, n - 1, .., 1. */
    private static final String SUM = "stuff oak bears 3 costs 5;stuff pine bears 1 costs 1;"
            + "cell n 0;cell s 0;input n 0 4;line oak if n=0 go 4;line oak set s s+n;"
            + "line oak set n n-1;line pine go 0;line pine write s;";
    private static final String X = "stuff x bears 9999 costs 1;";
    private static final String XC = X + "cell c 7;";

    public static void main(String[] args) {
        newObject();
        feed();
        programme();
        stuff();
        line();
        lay();
        cost();
        inputs();
        input();
        begin();
        run();
        runsOut();
        state();
        cell();
        wrote();
        fresh();
        steps();
        falls();
        fallsBehindThousand();
        most();
        never();
        first();
        apart();
        rounds();
        lasting();
        lasts();
        better();
        same();
        mark();
        count();
        values();
        acts();
        CHECK.end();
    }

    private static void due(String call, long got, long want) {
        CHECK.due(call, got, want);
    }

    private static void due(String call, boolean got, boolean want) {
        CHECK.due(call, got, want);
    }

    private static void newObject() {
        WornLines x = new WornLines();
        due("1: NONE", WornLines.NONE, -1);
        for (int what = 0; what < 5; what++) {
            due("1: count", x.count(what), 0);
        }
        due("1: inputs()", x.inputs(), 1);
        due("1: state(0)", x.state(0), 0);
        due("1: state(1)", x.state(1), NONE);
        due("1: state(2)", x.state(2), 0);
        due("1: state(3)", x.state(3), 0);
        due("1: fresh()", x.fresh(), true);
        due("1: lay", x.lay(0, 0, 1), false);
        due("1: most", x.most(0, 0), NONE);
        due("1: programme() of an empty tape", x.programme(), 0);
        due("1: mark", x.mark(0, false), true);
        due("1: same", x.same(0), -2);
        due("1: mark back", x.mark(0, true), true);
    }

    private static void feed() {
        WornLines x = new WornLines();
        due("2: nothing", x.feed(0, 0, 0), 0);
        due("2: others are left out", x.feed(0x000109_0b1f_7f80ffL, -1L, LEAST), 0);
        due("2: 10, 32, 126", x.feed(0x0a20_7e00_0000_0000L, 0, 0x7eL), 4);
        due("2: the tape is read", x.programme(), 1 + 16 * 2);
        due("2: highest first", Check.feed(x, "cell abcdefgh 12;input abcdefgh 3 4;"), 36);
        due("2: programme()", x.programme(), 0);
        due("2: input(1, 0)", x.input(1, 0), 4);
        StringBuilder blanks = new StringBuilder();
        for (int i = 0; i < 998; i++) {
            blanks.append(' ');
        }
        due("2: 998", Check.feed(x, blanks.toString()), 998);
        due("2: 1000 at most", Check.feed(x, ";;;;"), 1000);
        due("2: 1000 at most", Check.feed(x, ";"), 1000);
        due("2: count(4)", x.count(4), 1000);
        due("2: the two that came first", x.programme(), 1 + 16 * 998);
        due("2: the tape is taken", x.count(4), 0);
    }

    private static void programme() {
        WornLines x = Check.told(SUM);
        x.begin(2);
        x.run(3);
        x.lay(3, 0, 2);
        x.mark(1, false);
        due("3: anew", Check.programme(x, SUM), 0);
        due("3: nothing is begun", x.state(0), 0);
        due("3: no steps", x.state(2), 0);
        due("3: nothing worn", x.line(0, 4), 0);
        due("3: laid as told", x.line(3, 1), 1);
        due("3: one twin", x.line(3, 2), 1);
        due("3: cell", Check.cell(x, 0), Check.THROWS);
        x.begin(1);
        x.run(6);
        due("3: written", x.state(3), 1);
        due("3: anew", Check.programme(x, SUM), 0);
        due("3: nothing written", x.state(3), 0);
        due("3: nothing written", Check.wrote(x, 0), Check.THROWS);
        due("3: marks stay", x.mark(1, true), true);
        due("3: of the mark", x.line(3, 2), 2);
        due("3: no line", Check.programme(x, "cell a 3;"), 0);
        due("3: no line", x.count(3), 0);
        due("3: no line", x.begin(0), false);
        due("3: a fault", Check.programme(x, "cell a b;"), 1 + 16 * 7);
        due("3: all stays", x.count(1), 1);
        manyProgrammes(x);
    }

    /** What is worked out for one programme is not taken for another. */
    private static void manyProgrammes(WornLines x) {
        String once = X + "line x write 1;line x halt;line x halt;";
        String endless = X + "line x go 0;";
        String nines = X + "line x write 1+2+3+4+5+6+7+8+9+1+2+3+4+5+6+7+8+9+1+2+3+4+5+6+7+8+9;";
        for (int i = 0; i < 8; i++) {
            Check.programme(x, nines);
            x.begin(0);
            x.run(1);
            due("3: 27 numbers", Check.wrote(x, 0), 135);
            Check.programme(x, SUM);
            x.mark(0, false);
            due("18: of the sum", x.most(0, 0), 5);
            due("19: of the sum", x.never(), 0);
            due("23: of the sum", x.lasting(14), 29);
            Check.programme(x, endless);
            due("19: endless", x.never(), NONE);
            Check.programme(x, once);
            due("18: once", x.most(0, 0), 1);
            due("18: once", x.most(0, 1), 0);
            due("18: once", x.most(0, 2), 1);
            due("18: never", x.most(2, 1), 0);
            due("23: once", x.lasting(14), 3);
            x.mark(0, true);
            due("18: of the sum again", x.most(0, 1), 4);
            due("24: of the sum again", x.lasts(14, 2, 1), 4);
        }
    }

    private static void stuff() {
        WornLines x = Check.told("stuff a bears 9999 costs 999;stuff b bears 1 costs 0;");
        due("4", x.stuff(0, 0), 9999);
        due("4", x.stuff(0, 1), 999);
        due("4", x.stuff(1, 0), 1);
        due("4", x.stuff(1, 1), 0);
        for (int other : new int[] {-1, 2, 4, LEAST, GREATEST}) {
            due("4: others", x.stuff(other, 0), NONE);
            due("4: others", x.stuff(0, other), NONE);
        }
    }

    private static void line() {
        WornLines x = Check.told("stuff a bears 3 costs 1;stuff b bears 5 costs 1;cell c 0;"
                + "line a set c 1;line b write 1;line a go 3;line a if 0 go 0;line a call 5 keep c;"
                + "line b mend 1 by 0;line a halt;");
        for (int act = 0; act < 7; act++) {
            due("5: act", x.line(act, 0), act);
            due("5: twins", x.line(act, 2), 1);
            due("5: worn", x.line(act, 4), 0);
        }
        due("5: stuff", x.line(1, 1), 1);
        due("5: stuff", x.line(2, 1), 0);
        due("5: bears", x.line(1, 3), 5);
        x.lay(1, 0, 4);
        due("5: bears", x.line(1, 3), 12);
        x.begin(0);
        x.run(100);
        due("5: worn", x.line(1, 4), 1);
        for (int other : new int[] {-1, 7, 16, LEAST, GREATEST}) {
            due("5: others", x.line(other, 0), NONE);
            due("5: others", x.line(0, other), NONE);
        }
        due("5: others", x.line(0, 5), NONE);
    }

    private static void lay() {
        WornLines x = Check.told("stuff a bears 3 costs 1;stuff b bears 5 costs 2;line a go 1;line a go 0;");
        x.begin(0);
        due("6: run", x.run(100), 6);
        due("6: falls", x.state(0), 3);
        due("6: lay", x.lay(0, 1, 4), true);
        due("6: worn", x.line(0, 4), 0);
        due("6: the other stays worn", x.line(1, 4), 3);
        due("6: stuff", x.line(0, 1), 1);
        due("6: twins", x.line(0, 2), 4);
        due("6: bears", x.line(0, 3), 20);
        due("6: it stays fallen", x.state(0), 3);
        due("6: twins 0", x.lay(0, 1, 0), false);
        due("6: twins 5", x.lay(0, 1, 5), false);
        due("6: stuff 2", x.lay(0, 2, 1), false);
        due("6: stuff -1", x.lay(0, -1, 1), false);
        due("6: line 2", x.lay(2, 0, 1), false);
        due("6: line -1", x.lay(-1, 0, 1), false);
        due("6: as it was", x.line(0, 3), 20);
    }

    private static void cost() {
        WornLines x = Check.told("stuff a bears 3 costs 999;stuff b bears 5 costs 2;line a go 1;line b go 0;");
        due("7", x.cost(), 1001);
        x.lay(0, 0, 4);
        due("7", x.cost(), 3998);
        x.lay(0, 1, 3);
        due("7", x.cost(), 8);
    }

    private static void inputs() {
        due("8", Check.told(SUM).inputs(), 5);
        due("8", Check.told("cell a 1;cell b 2;input b 3 5;input a 0 20;").inputs(), 63);
        due("8", Check.told("cell a 1;").inputs(), 1);
    }

    private static void input() {
        WornLines x = Check.told("cell a 1;cell b 2;cell c 9;input b 3 5;input a 6 7;");
        int[] a = {6, 7, 6, 7, 6, 7};
        int[] b = {3, 3, 4, 4, 5, 5};
        for (int i = 0; i < 6; i++) {
            due("9: the last told changes first", x.input(i, 0), a[i]);
            due("9: then the other", x.input(i, 1), b[i]);
            due("9: no input", x.input(i, 2), 9);
        }
        for (int other : new int[] {-1, 6, LEAST, GREATEST}) {
            due("9: others", x.input(other, 0), NONE);
            due("9: others", x.input(0, other), NONE);
        }
        due("9: others", x.input(0, 3), NONE);
        due("9: input 0 alone", Check.told("cell a 4;").input(0, 0), 4);
        due("9: input 0 alone", Check.told("cell a 4;").input(1, 0), NONE);
    }

    private static void begin() {
        WornLines x = Check.told(SUM);
        due("10: none such", x.begin(5), false);
        due("10: none such", x.begin(-1), false);
        due("10: not begun", x.state(0), 0);
        due("10", x.begin(1), true);
        x.run(6);
        due("10: the end", x.state(0), 2);
        due("10: anew", x.begin(4), true);
        due("10: state", x.state(0), 1);
        due("10: next", x.state(1), 0);
        due("10: steps", x.state(2), 0);
        due("10: written", x.state(3), 0);
        due("10: input", Check.cell(x, 0), 4);
        due("10: as told", Check.cell(x, 1), 0);
        due("10: wrote", Check.wrote(x, 0), Check.THROWS);
        due("10: worn stays", x.line(0, 4), 2);
        due("10: none such", x.begin(5), false);
        due("10: it goes on as it did", Check.cell(x, 0), 4);
    }

    private static void run() {
        WornLines x = Check.told(SUM);
        due("11: nothing begun", x.run(3), 0);
        x.begin(2);
        due("11: less than none", x.run(-1), NONE);
        due("11: too many", x.run(1000001), NONE);
        due("11: others", x.run(LEAST), NONE);
        due("11: none", x.run(0), 0);
        due("11: 7", x.run(7), 7);
        due("11: the hole does not show yet", x.state(0), 1);
        due("11: nor by no steps", x.run(0), 0);
        due("11: nor by no steps", x.state(0), 1);
        due("11: now it does", x.run(1), 0);
        due("11: fallen", x.state(0), 3);
        due("11: at 3", x.state(1), 3);
        due("11: the line is no more worn", x.line(3, 4), 1);
        x.fresh();
        due("11: it stays fallen", x.run(1), 0);
        due("11: it stays fallen", x.state(0), 3);
        x.begin(0);
        due("11: to the end", x.run(1000000), 2);
        due("11: behind the end", x.run(1), 0);
    }

    /** The lines are mended in turn, so that nothing gives within 1,000,000 steps. */
    private static void runsOut() {
        WornLines x = Check.told(X + "cell k 0;line x mend k by 9999;line x set k k+1;line x go 0;");
        x.begin(0);
        due("11", x.run(999999), 999999);
        due("12: goes on", x.state(0), 1);
        due("25: by hand only one is left", x.better(1), 1);
        due("25: all equal", x.better(0), 0);
        x.mark(0, false);
        due("11: the last", x.run(2), 1);
        due("12: spent", x.state(0), 4);
        due("12: next", x.state(1), 1);
        due("12: steps", x.state(2), 1000000);
        due("11: no more", x.run(5), 0);
        due("25: spent", x.better(0), NONE);
        x.mark(1, false);
        due("27: goes on", x.mark(0, true), true);
        due("27: goes on", x.state(0), 1);
        due("27: goes on", x.run(5), 1);
        x.begin(0);
        due("12: begun anew", x.state(0), 1);
        due("11: begun anew", x.run(1000000), 1000000);
        due("12: spent", x.state(0), 4);
        x.begin(0);
        due("27: spent", x.mark(1, true), true);
        due("27: spent", x.state(0), 4);
        due("13: spent", Check.cell(x, 0), 333333);
        WornLines y = Check.told(X + "cell k 0;line x mend k by 9999;line x set k k+1;line x if k<4999+4999*9999 go 0;");
        y.begin(0);
        due("11: spent", y.run(1000000), 1000000);
        WornLines z = Check.told(X + "cell k 0;line x mend k by 9999;line x set k k+1;line x if k<333*1000+333 go 0;"
                + "line x halt;");
        z.begin(0);
        due("11: the end by the last step", z.run(1000000), 1000000);
        due("12: the end by the last step", z.state(0), 2);
        WornLines w = Check.told(X + "line x go 0;");
        w.begin(0);
        due("11: line 0 gives", w.run(1000000), 9999);
    }

    private static void state() {
        WornLines x = Check.told(SUM);
        x.begin(1);
        x.run(5);
        due("12: goes on", x.state(0), 1);
        due("12: next", x.state(1), 4);
        due("12: steps", x.state(2), 5);
        due("12: written", x.state(3), 0);
        x.run(1);
        due("12: the end", x.state(0), 2);
        due("12: next", x.state(1), NONE);
        due("12: steps", x.state(2), 6);
        due("12: written", x.state(3), 1);
        for (int other : new int[] {-1, 4, LEAST, GREATEST}) {
            due("12: others", x.state(other), NONE);
        }
    }

    private static void cell() {
        WornLines x = Check.told(XC + "line x set c c*c;");
        due("13: nothing is begun", Check.cell(x, 0), Check.THROWS);
        x.begin(0);
        due("13", Check.cell(x, 0), 7);
        x.run(1);
        due("13", Check.cell(x, 0), 49);
        for (int other : new int[] {-1, 1, 6, LEAST, GREATEST}) {
            due("13: none such", Check.cell(x, other), Check.THROWS);
        }
    }

    private static void wrote() {
        WornLines x = Check.told(XC + "line x set c c+1;line x write c*3;line x go 0;");
        due("14: nothing is begun", Check.wrote(x, 0), Check.THROWS);
        x.begin(0);
        x.run(800);
        due("14: written", x.state(3), 267);
        due("14", Check.wrote(x, 0), 24);
        due("14", Check.wrote(x, 199), 24 + 199 * 3);
        for (int other : new int[] {-1, 200, 266, 267, LEAST, GREATEST}) {
            due("14: none kept", Check.wrote(x, other), Check.THROWS);
        }
        x.begin(0);
        x.run(2);
        due("14: anew", Check.wrote(x, 0), 24);
        due("14: anew", Check.wrote(x, 1), Check.THROWS);
    }

    private static void fresh() {
        WornLines x = Check.told(SUM);
        x.begin(2);
        x.run(5);
        due("15", x.fresh(), true);
        for (int line = 0; line < 5; line++) {
            due("15: not worn", x.line(line, 4), 0);
        }
        due("15: it goes on", x.state(0), 1);
        due("15: to the end", x.run(50), 5);
    }

    private static void steps() {
        WornLines x = Check.told(SUM);
        due("16: ends", x.steps(0), 2);
        due("16: falls", x.steps(2), 7);
        due("16: none such", x.steps(5), NONE);
        due("16: none such", x.steps(-1), NONE);
        x.begin(1);
        x.run(3);
        due("16: unworn", x.steps(1), 6);
        due("16: the machine stays", x.state(2), 3);
        due("16: what is worn stays", x.line(0, 4), 1);
        x.lay(3, 0, 1);
        due("16: as it is laid", x.steps(2), 10);
        due("16: no line", Check.told("cell a 1;").steps(0), NONE);
        due("16: endless", Check.told(X + "line x go 0;").steps(0), NONE);
        String counts = "cell c 0;line x set c c+1;line x if c<499 go 0;line x halt;line x halt;";
        due("16: 999 steps", Check.told(X + counts).steps(0), 999);
        String thousand = "cell c 0;line x set c c+1;line x if c<499 go 0;line x write 1;line x write 2;";
        due("16: 1000 steps", Check.told(X + thousand).steps(0), 1000);
        due("16: 1001 steps", Check.told(X + thousand + "line x halt;").steps(0), NONE);
    }

    private static void falls() {
        WornLines x = Check.told(SUM);
        due("17: does not", x.falls(0), NONE);
        due("17", x.falls(2), 3);
        due("17: none such", x.falls(5), NONE);
        due("17: none such", x.falls(-1), NONE);
        x.lay(3, 0, 1);
        due("17: as it is laid", x.falls(3), 0);
        due("17: endless", Check.told(X + "line x go 0;").falls(0), NONE);
        due("17: no line", Check.told("cell a 1;").falls(0), NONE);
    }

    /** To fall takes no step: behind 1,000 steps a run still falls within 1,000, behind more it is endless. */
    private static void fallsBehindThousand() {
        for (int bears : new int[] {997, 998, 999, 1000, 1001, 1002, 9999}) {
            boolean within = bears <= 1000;
            WornLines x = Check.told("stuff x bears " + bears + " costs 1;line x go 0;");
            String behind = "falls behind " + bears;
            due("16: " + behind, x.steps(0), within ? bears : NONE);
            due("17: " + behind, x.falls(0), within ? 0 : NONE);
            due("20: " + behind, x.first(0), within ? 0 : NONE);
            due("20: " + behind, x.first(1), within ? bears : NONE);
            due("20: " + behind, x.first(2), within ? 0 : NONE);
            due("21: " + behind, x.apart(), NONE);
            due("22: " + behind, x.rounds(0), 0);
            due("18: soft it is endless, " + behind, x.most(0, 0), NONE);
        }
        fallsAtAnother();
        fallsByOneOfThree();
        fallsByHandWhenWorked();
    }

    private static void fallsAtAnother() {
        WornLines x = Check.told("stuff x bears 333 costs 1;stuff y bears 9999 costs 1;"
                + "line y write 1;line y write 2;line x go 3;line y go 2;");
        x.lay(2, 0, 1);
        due("16: 2 + 2 * 333", x.steps(0), 668);
        x.lay(2, 0, 2);
        due("16: 2 + 2 * 666", x.steps(0), NONE);
        WornLines y = Check.told("stuff x bears 499 costs 1;stuff y bears 9999 costs 1;"
                + "line y write 1;line y write 2;line x go 3;line y go 2;");
        due("16: 2 + 2 * 499", y.steps(0), 1000);
        due("17: 2 + 2 * 499", y.falls(0), 2);
        due("20: 2 + 2 * 499", y.first(1), 1000);
        due("20: 2 + 2 * 499", y.first(2), 2);
        y.lay(3, 0, 1);
        y.lay(2, 1, 1);
        due("16: 3 + 2 * 499", y.steps(0), NONE);
        due("17: 3 + 2 * 499", y.falls(0), NONE);
        due("20: 3 + 2 * 499", y.first(0), NONE);
        // What is written ahead of the fall is all the same, so that no input is apart.
        due("21: behind 1000", y.apart(), NONE);
        due("16: it ends by step 1000 ahead of a hole", Check.told("stuff x bears 499 costs 1;stuff y bears 9999 costs 1;"
                + "cell c 0;line x set c c+1;line y if c<499 go 0;line y if c=499 go 4;line x halt;line y halt;").steps(0),
                1000);
    }

    /** By input 2 the loop is come to behind 1 step, by 1 behind 2, by 0 behind 3. */
    private static void fallsByOneOfThree() {
        for (int bears = 995; bears <= 1001; bears++) {
            WornLines x = Check.told("stuff x bears " + bears + " costs 1;stuff y bears 9 costs 1;cell c 0;"
                    + "input c 0 2;line y if c=2 go 3;line y if c=1 go 3;line y go 3;line x go 3;");
            for (int input = 0; input < 3; input++) {
                int behind = bears + 3 - input;
                due("16: behind " + behind, x.steps(input), behind <= 1000 ? behind : NONE);
                due("17: behind " + behind, x.falls(input), behind <= 1000 ? 3 : NONE);
            }
            boolean falls = bears + 1 <= 1000;
            due("20: behind " + (bears + 1), x.first(0), falls ? 2 : NONE);
            due("20: behind " + (bears + 1), x.first(1), falls ? bears + 1 : NONE);
            due("20: behind " + (bears + 1), x.first(2), falls ? 3 : NONE);
        }
        WornLines y = Check.told("stuff x bears 1000 costs 1;cell c 0;input c 5 9;line x go 0;");
        due("20: of equal ones behind 1000 the first", y.first(0), 0);
        due("20: of equal ones behind 1000 the first", y.first(1), 1000);
    }

    private static void fallsByHandWhenWorked() {
        WornLines x = Check.told("stuff x bears 1000 costs 1;line x go 0;");
        x.begin(0);
        due("11: by hand", x.run(1000), 1000);
        due("12: the hole does not show yet", x.state(0), 1);
        due("11: no step is to be worked", x.run(0), 0);
        due("12: the hole does not show yet", x.state(0), 1);
        due("16: asked behind the steps", x.steps(0), 1000);
        due("12: the machine stays", x.state(0), 1);
        due("25: mended", x.better(1), 1000);
        due("11: the hole", x.run(1), 0);
        due("12: the hole shows", x.state(0), 3);
        due("12: no step", x.state(2), 1000);
        due("12: at which line", x.state(1), 0);
        // Step 999,999 is the first that goes to line 2 anew; laid with y it is a hole behind the step to come.
        WornLines y = Check.told(X + "stuff y bears 1 costs 1;cell k 0;line x mend k by 9999;line x set k k+1;"
                + "line x go 2*(k=333*1001);");
        y.begin(0);
        due("11: by hand", y.run(999999), 999999);
        due("12: line 2", y.state(1), 2);
        y.lay(2, 1, 1);
        due("11: the last", y.run(2), 1);
        due("12: at a hole it is spent", y.state(0), 4);
        due("12: at a hole", y.state(1), 2);
        due("5: as worn as it bears", y.line(2, 4), 1);
        due("11: no more", y.run(1), 0);
        due("12: it stays spent", y.state(0), 4);
    }

    private static void most() {
        WornLines x = Check.told(SUM);
        x.begin(4);
        x.run(100);
        int[] often = {5, 4, 4, 4, 1};
        int[] by = {4, 4, 4, 4, 0};
        for (int line = 0; line < 5; line++) {
            due("18: how often", x.most(line, 0), often[line]);
            due("18: by which", x.most(line, 1), by[line]);
            due("18: peak", x.most(line, 2), often[line]);
        }
        for (int other : new int[] {-1, 5, LEAST, GREATEST}) {
            due("18: others", x.most(other, 0), NONE);
            due("18: others", x.most(0, other), NONE);
        }
        due("18: others", x.most(0, 3), NONE);
        WornLines mends = Check.told("stuff a bears 4 costs 2;cell k 0;input k 0 2;line a set k k+1;"
                + "line a mend 0 by 2;line a mend 2 by 1;line a if k<5 go 0;line a halt;line a go 0;");
        due("18: mended by others", mends.most(0, 2), 1);
        due("18: self mended", mends.most(2, 0), 5);
        due("18: self mended", mends.most(2, 2), 1);
        due("18: never gone over", mends.most(5, 0), 0);
        due("18: never gone over, the first input", mends.most(5, 1), 0);
        due("18: never gone over", mends.most(5, 2), 0);
        due("18: endless", Check.told(XC + "input c 0 1;line x if c go 0;").most(0, 0), NONE);
        due("18: 1000 steps", Check.told("stuff x bears 1 costs 1;cell c 0;line x set c c+1;"
                + "line x if c<500 go 0;").most(0, 2), 500);
        due("18: 1001 steps", Check.told("stuff x bears 1 costs 1;cell c 0;line x set c c+1;"
                + "line x if c<500 go 0;line x halt;").most(0, 2), NONE);
        due("18: more steps", Check.told("stuff x bears 1 costs 1;cell c 0;line x set c c+1;"
                + "line x if c<501 go 0;").most(0, 2), NONE);
    }

    private static void never() {
        due("19", Check.told(SUM).never(), 0);
        due("19", Check.told(XC + "input c 1 2;line x if c=1 go 2;line x halt;line x go 5;line x halt;"
                + "line x halt;line x go 6;line x go 1;line x write 1;").never(), 8 + 16 + 128);
        due("19: no line", new WornLines().never(), NONE);
        due("19: endless", Check.told(XC + "input c 0 1;line x if c go 0;").never(), NONE);
    }

    private static void first() {
        WornLines x = Check.told(SUM);
        due("20", x.first(0), 2);
        due("20", x.first(1), 7);
        due("20", x.first(2), 3);
        for (int other : new int[] {-1, 3, LEAST, GREATEST}) {
            due("20: others", x.first(other), NONE);
        }
        x.lay(3, 0, 4);
        due("20: as it is laid", x.first(0), 3);
        due("20: as it is laid", x.first(2), 0);
        due("20: no line", new WornLines().first(0), NONE);
        due("20: none falls", Check.told(X + "line x halt;").first(0), NONE);
        due("20: endless does not fall", Check.told(X + "line x go 0;").first(0), NONE);
        // By 0 it falls behind 6, by 1 behind 5, by 2 too.
        WornLines y = Check.told("stuff a bears 2 costs 1;stuff b bears 99 costs 1;cell c 0;input c 0 2;"
                + "line b if c go 2;line b go 2;line a write 1;line a go 2;");
        due("20: the fewest", y.first(0), 1);
        due("20: the fewest", y.first(1), 5);
        due("20: the fewest", y.first(2), 2);
        WornLines z = Check.told("stuff a bears 2 costs 1;stuff b bears 9999 costs 1;cell c 0;input c 0 1;"
                + "line b if c go 2;line b go 1;line a go 2;");
        due("20: besides an endless one", z.first(0), 1);
        due("20: besides an endless one", z.first(1), 3);
        WornLines w = Check.told("stuff a bears 2 costs 1;stuff b bears 99 costs 1;cell c 0;input c 0 2;"
                + "line b if c=0 go 2;line b if c=1 go 4;line a go 2;line b halt;line a write 1;line a go 4;");
        due("20: input 0", w.first(0), 0);
        due("20: input 0", w.first(1), 3);
        due("20: input 0", w.first(2), 2);
    }

    private static void apart() {
        WornLines x = Check.told(SUM);
        due("21", x.apart(), 2);
        x.lay(3, 0, 1);
        due("21: as it is laid", x.apart(), 3);
        for (int line = 0; line < 5; line++) {
            x.lay(line, 0, 4);
        }
        due("21: none", x.apart(), NONE);
        due("21: no line", new WornLines().apart(), NONE);
        due("21: worn is written", Check.told(X + "line x write worn 0;").apart(), 0);
        due("21: the same till it falls", Check.told("stuff x bears 1 costs 1;line x go 0;").apart(), NONE);
        due("21: endless, 1000 steps", Check.told(X + "line x write 0*worn 0;line x go 0;").apart(), NONE);
        due("21: endless, in the last step", Check.told(X + "cell k 0;line x set k k+1;line x write k*0;"
                + "line x if worn 0=333 go 4;line x go 0;line x write 5;line x go 0;").apart(), NONE);
        due("21: beyond the 200 kept", Check.told(X + "cell k 0;line x write worn 0=300;line x set k k+1;"
                + "line x if k<301 go 0;").apart(), 0);
        due("21: one is endless", Check.told(X + "line x write 1;line x if worn 0<3 go 0;").apart(), 0);
    }

    private static void rounds() {
        WornLines x = Check.told(SUM);
        due("22", x.rounds(0), 1);
        due("22", x.rounds(2), 0);
        due("22: behind a soft run", x.never(), 0);
        due("22: behind a soft run", x.rounds(0), 1);
        due("22: none such", x.rounds(5), NONE);
        due("22: none such", x.rounds(-1), NONE);
        due("22: no line", new WornLines().rounds(0), NONE);
        x.begin(0);
        x.run(9);
        due("22: unworn", x.rounds(0), 1);
        due("22: what is worn stays", x.line(4, 4), 1);
        x.lay(4, 0, 4);
        due("22: as it is laid", x.rounds(0), 3);
        due("22: 99", Check.told("stuff x bears 99 costs 1;line x halt;").rounds(0), 99);
        due("22: 100", Check.told("stuff x bears 100 costs 1;line x halt;").rounds(0), 100);
        due("22: more", Check.told("stuff x bears 101 costs 1;line x halt;").rounds(0), 100);
        due("22: mended", Check.told("stuff x bears 1 costs 1;line x mend 0 by 1;").rounds(0), 100);
        due("22: endless", Check.told(X + "line x go 0;").rounds(0), 0);
        // The third round finds the line worn, and does not end.
        due("22: endless later", Check.told(X + "line x if worn 0<3 go 2;line x go 1;line x halt;").rounds(0), 2);
    }

    private static void lasting() {
        WornLines x = Check.told(SUM);
        due("23", x.lasting(64), 23);
        due("23", x.lasting(15), 23);
        due("23", x.lasting(14), 29);
        due("23", x.lasting(9), 41);
        due("23: not within", x.lasting(8), NONE);
        for (int other : new int[] {-1, 0, 65, LEAST, GREATEST}) {
            due("23: others", x.lasting(other), NONE);
        }
        due("23: no line", new WornLines().lasting(5), NONE);
        due("23: endless", Check.told(X + "line x go 0;").lasting(5), NONE);
        due("23: no stuff bears it", Check.told("stuff x bears 1 costs 1;cell c 0;line x set c c+1;"
                + "line x if c<5 go 0;").lasting(64), NONE);
        due("23: 4 twins bear it", Check.told("stuff x bears 1 costs 1;cell c 0;line x set c c+1;"
                + "line x if c<4 go 0;").lasting(8), 8);
        due("23: one line, one room", Check.told("stuff x bears 1 costs 7;line x halt;").lasting(1), 7);
    }

    private static void lasts() {
        WornLines x = Check.told(SUM);
        int[] stuffs = {0, 0, 1, 1, 1};
        int[] twins = {2, 2, 4, 4, 1};
        for (int line = 0; line < 5; line++) {
            due("24: stuff", x.lasts(14, line, 0), stuffs[line]);
            due("24: twins", x.lasts(14, line, 1), twins[line]);
        }
        for (int other : new int[] {-1, 5, LEAST, GREATEST}) {
            due("24: others", x.lasts(14, other, 0), NONE);
            due("24: others", x.lasts(14, 0, other), NONE);
        }
        due("24: others", x.lasts(14, 0, 2), NONE);
        due("24: not within", x.lasts(8, 0, 0), NONE);
        due("24: no such room", x.lasts(0, 0, 0), NONE);
        due("24: no such room", x.lasts(65, 0, 0), NONE);
        due("24: no line", new WornLines().lasts(5, 0, 0), NONE);
        due("24: endless", Check.told(X + "line x go 0;").lasts(5, 0, 0), NONE);
        // Equal costs: the least stuff, then the fewest twins.
        WornLines y = Check.told("stuff a bears 1 costs 0;stuff b bears 2 costs 0;cell c 0;"
                + "line b set c c+1;line b if c<2 go 0;line b halt;");
        due("24: equal", y.lasting(64), 0);
        due("24: the least stuff", y.lasts(64, 0, 0), 0);
        due("24: twins", y.lasts(64, 0, 1), 2);
        due("24: the fewest twins", y.lasts(64, 2, 1), 1);
        due("24: within 4, line 0 comes first", y.lasts(4, 0, 0), 0);
        due("24: within 4, line 0 comes first", y.lasts(4, 0, 1), 2);
        due("24: within 4, line 1 behind", y.lasts(4, 1, 0), 1);
        due("24: within 4, line 1 behind", y.lasts(4, 1, 1), 1);
        due("24: within 3", y.lasts(3, 0, 0), 1);
        due("24: within 3", y.lasts(3, 2, 0), 0);
    }

    private static void better() {
        WornLines x = Check.told(SUM);
        due("25: nothing is begun", x.better(0), NONE);
        x.begin(2);
        x.run(100);
        due("25", x.better(0), 3);
        due("25", x.better(1), 3);
        due("25: it stays worn", x.line(3, 4), 1);
        due("25: it stays fallen", x.state(0), 3);
        for (int other : new int[] {-1, 2, LEAST, GREATEST}) {
            due("25: others", x.better(other), NONE);
        }
        x.begin(0);
        due("25: goes on, all equal", x.better(0), 0);
        due("25: goes on, all equal", x.better(1), 2);
        x.run(2);
        due("25: the end", x.better(0), NONE);
        WornLines y = Check.told("stuff a bears 2 costs 1;stuff b bears 9999 costs 1;line b go 1;line a go 0;");
        y.begin(0);
        y.run(3);
        due("25: in advance", y.better(0), 1);
        due("25: in advance", y.better(1), 4);
        WornLines z = Check.told(X + "line x go 0;");
        z.begin(0);
        due("25: 1000 at most", z.better(1), 1000);
        z.run(9900);
        due("25: 1000 at most", z.better(1), 1000);
    }

    private static void same() {
        WornLines x = Check.told(SUM);
        due("26: nothing on it", x.same(0), -2);
        for (int other : new int[] {-1, 4, LEAST, GREATEST}) {
            due("26: no mark", x.same(other), -2);
        }
        x.mark(0, false);
        due("26: itself", x.same(0), -1);
        x.lay(0, 1, 1);
        due("26: however it is laid", x.same(0), -1);
        Check.programme(x, "cell n 0;input n 1 5;" + X + "line x write n*(n-1)-(n-1)*(n-2)*(2<n);");
        due("26: at the first that is not", x.same(0), 1);
        Check.programme(x, "cell s 0;cell n 0;input n 3 7;" + X + "line x write 0*n;");
        due("26: numbers of inputs may be others", x.same(0), 1);
        Check.programme(x, "cell s 0;cell n 0;input n 0 3;" + X + "line x write 0;");
        due("26: others of inputs", x.same(0), -2);
        Check.programme(x, "cell n 0;input n 0 4;");
        due("26: no line", x.same(0), -2);
        x.mark(1, false);
        x.mark(0, true);
        due("26: no line in the mark", x.same(1), -2);
        sameAndTheEnd();
    }

    private static void sameAndTheEnd() {
        WornLines x = Check.told(X + "line x go 0;");
        x.mark(0, false);
        Check.programme(x, X + "line x halt;");
        due("26: one ends", x.same(0), 0);
        x.mark(1, false);
        x.mark(0, true);
        due("26: the other ends", x.same(1), 0);
        Check.programme(x, X + "line x go 1;line x go 0;");
        due("26: none ends", x.same(0), -1);
        Check.programme(x, X + "line x write worn 0;line x mend 0 by 9;line x if worn 0 go 0;");
        x.mark(2, false);
        Check.programme(x, X + "line x write 0;");
        due("26: plain", x.same(2), -1);
        String many = "cell k 0;line x set k k+1;line x write k=300;line x if k<301 go 0;";
        Check.programme(x, X + many);
        x.mark(3, false);
        Check.programme(x, X + "cell k 0;line x set k k+1;line x write 0;line x if k<301 go 0;");
        due("26: beyond the 200 kept", x.same(3), 0);
        Check.programme(x, X + many);
        due("26: the same again", x.same(3), -1);
        due("26: one writes more", Check.programme(x, X + many + "line x write 0;"), 0);
        due("26: one writes more", x.same(3), 0);
    }

    private static void mark() {
        WornLines x = Check.told(SUM);
        for (int other : new int[] {-1, 4, LEAST, GREATEST}) {
            due("27: none such", x.mark(other, false), false);
            due("27: none such", x.mark(other, true), false);
        }
        due("27: nothing on it", x.mark(3, true), false);
        x.lay(0, 0, 3);
        x.begin(1);
        x.run(6);
        due("27: laid", x.mark(3, false), true);
        Check.programme(x, "cell q 5;" + X + "line x write q;line x set q 9;");
        x.begin(0);
        x.run(2);
        due("27: wrote in between", Check.wrote(x, 0), 5);
        Check.feed(x, "cell");
        due("27: back", x.mark(3, true), true);
        due("27: the programme", x.count(3), 5);
        due("27: how it is laid", x.line(0, 2), 3);
        due("27: what is worn", x.line(0, 4), 2);
        due("27: the machine", x.state(0), 2);
        due("27: the machine", x.state(2), 6);
        due("27: the machine", Check.wrote(x, 0), 1);
        due("27: the machine", Check.cell(x, 1), 1);
        due("27: the tape stays", x.count(4), 4);
        x.fresh();
        x.begin(4);
        x.lay(0, 1, 1);
        due("27: back once more", x.mark(3, true), true);
        due("27: it was not changed", x.line(0, 3), 9);
        due("27: it was not changed", x.state(0), 2);
        due("27: it was not changed", Check.cell(x, 0), 0);
        due("27: other marks are empty", x.mark(0, true), false);
        x.lay(0, 1, 1);
        due("27: laid anew", x.mark(3, false), true);
        x.lay(0, 1, 2);
        x.mark(3, true);
        due("27: laid anew", x.line(0, 3), 1);
    }

    private static void count() {
        WornLines x = Check.told(SUM);
        Check.feed(x, "abc");
        int[] counts = {2, 2, 1, 5, 3};
        for (int what = 0; what < 5; what++) {
            due("28", x.count(what), counts[what]);
        }
        for (int other : new int[] {-1, 5, LEAST, GREATEST}) {
            due("28: others", x.count(other), NONE);
        }
    }

    private static void value(String e, int want) {
        WornLines x = Check.told(XC + "cell big 9999;cell o 0;line x write " + e + ";line x write 1;");
        x.begin(0);
        x.run(1);
        due("E: " + e, Check.wrote(x, 0), want);
    }

    private static void values() {
        value("5", 5);
        value("0012", 12);
        value("c", 7);
        value("1+2*3-4", 3);
        value("2-3-4", -5);
        value("2*(3+4)", 14);
        value("1<2", 1);
        value("2<1", 0);
        value("2<2", 0);
        value("0-1<0", 1);
        value("3=3", 1);
        value("3=4", 0);
        value("1+1=2", 1);
        value("5 and 7", 1);
        value("5 and 0", 0);
        value("0 or 9", 1);
        value("0 or 0", 0);
        value("1 or 0 and 0", 0);
        value("0 and 0 or 1", 1);
        value("0 and (0 or 1)", 0);
        value("1<2 and 3<4", 1);
        value("2 and 3=1", 0);
        value("not 5", 0);
        value("not 0", 1);
        value("not 0+1", 2);
        value("not not 5", 1);
        value("2*not 0*3", 6);
        value("big*big*big", 9999 * 9999 * 9999);
        value("big*big*big*3<0", 9999 * 9999 * 9999 * 3 < 0 ? 1 : 0);
        value("0-big*big*100", -(9999 * 9999 * 100));
        value("worn 0", 1);
        value("worn 1", 0);
        value("worn 2", 1);
        value("worn(0-1)", 0);
        value("worn(0-2)", 1);
        value("worn worn 1", 1);
        value("worn worn 0", 0);
        value("worn 0+1", 2);
        value("worn(0+1)", 0);
        value("(c)", 7);
        value("((((c))))*((((c))))", 49);
        value("1+(1+(1+(1+1)))", 5);
        value("0 or 1<1+1*(0 or 1<1+1*(0 or 1<1+1*(0 or 1<1+1*(0 or 1<1+1*2))))", 1);
    }

    private static void acts() {
        // A call keeps the number behind it, of the last line too, and is told where to go first.
        WornLines x = Check.told(XC + "line x set c 0-1;line x call c keep c;line x write c;line x call 1 keep c;");
        x.begin(0);
        x.run(2);
        due("call goes by the old cell", x.state(1), 3);
        due("call keeps", Check.cell(x, 0), 2);
        x.run(1);
        due("call keeps that of none", Check.cell(x, 0), 4);
        due("call of the last", x.state(1), 1);
        WornLines y = Check.told(X + "line x go 0-1;line x halt;line x if 0-5 go 4;line x mend 0-3 by 1;line x go 2;");
        y.begin(0);
        y.run(1);
        due("go modulo", y.state(1), 4);
        y.run(2);
        due("if modulo, below 0 is so", y.state(1), 4);
        WornLines z = Check.told(X + "line x mend 0 by 0;line x mend 0 by 0-5;line x mend 0 by 9;"
                + "line x if worn 1 go 5;line x halt;line x if 0 go 0;");
        z.begin(0);
        z.run(1);
        due("mend by nothing", z.line(0, 4), 1);
        z.run(1);
        due("mend by less than nothing", z.line(0, 4), 1);
        z.run(1);
        due("mend not below 0", z.line(0, 4), 0);
        z.run(1);
        due("if", z.state(1), 5);
        z.run(1);
        due("not if: behind the last", z.state(0), 2);
        WornLines w = Check.told(X + "line x mend 1 by 2;line x write worn 1;line x mend 1 by worn 1-1;line x halt;");
        for (int round = 0; round < 3; round++) {
            w.begin(0);
            w.run(9);
        }
        due("halt is worn", w.line(3, 4), 3);
        due("mend by how worn it is", w.line(1, 4), 1);
        due("worn when it is written", Check.wrote(w, 0), 1);
    }
}
