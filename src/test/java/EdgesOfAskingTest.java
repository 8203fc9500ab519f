/** ==== 4 and ==== 5 of the document: each sentence that names a boundary case, by a test of its own. */
public final class EdgesOfAskingTest {
    private static final Check CHECK = new Check();
    private static final int NONE = WornLines.NONE;
    private static final String X = "stuff x bears 9999 costs 1;";
    private static final String XC = X + "cell c 0;";
    /** Goes over line 0 and 1 so many times as is told behind it, by two steps each. */
    private static final String TIMES = XC + "line x set c c+1;line x if c<";

    public static void main(String[] args) {
        noneEndless();
        mostOfALine();
        firstSuchInput();
        peak();
        peakWithin();
        never();
        behindHowManySteps();
        first();
        firstOfEqual();
        apart();
        apartByTheEnd();
        apartWithinThousand();
        rounds();
        roundsOfHundred();
        roundsWithinThousand();
        lastingRoom();
        lastingTwins();
        lastingPeak();
        leastCost();
        ofEqualOnes();
        ofEqualOnesWithinRoom();
        betterStates();
        better();
        betterOfThousand();
        betterAndTheEnd();
        betterOfEqual();
        betterIsALine();
        sameAsMany();
        sameWrites();
        sameEnds();
        marks();
        CHECK.end();
    }

    private static void due(String call, long got, long want) {
        CHECK.due(call, got, want);
    }

    private static void noneEndless() {
        CHECK.sentence("Of all INPUTS, SOFT (none of them ENDLESS)");
        // By input 0 it ends at once, by 1 in 1,001 steps, or in 1,000 (the next one).
        WornLines x = Check.told(XC + "cell d 0;input d 0 1;line x if d=0 go 4;line x set c c+1;line x if c<499 go 1;"
                + "line x write 1;line x halt;");
        due("1 + 998 + 2 steps", x.steps(1), NONE);
        due("most", x.most(0, 0), NONE);
        due("most, by which", x.most(0, 1), NONE);
        due("peak", x.most(4, 2), NONE);
        due("never", x.never(), NONE);
        due("lasting", x.lasting(64), NONE);
        due("lasts", x.lasts(64, 0, 0), NONE);
        due("the other is asked about", x.steps(0), 2);
        due("the other is asked about", x.rounds(0), 100);
        WornLines y = Check.told(XC + "cell d 0;input d 0 1;line x if d=0 go 3;line x set c c+1;line x if c<499 go 1;"
                + "line x halt;");
        due("1 + 998 + 1 steps", y.steps(1), 1000);
        due("most", y.most(1, 0), 499);
        due("most, by which", y.most(1, 1), 1);
        due("peak", y.most(2, 2), 499);
        due("never", y.never(), 0);
        due("lasting", y.lasting(64), 4);
        WornLines z = Check.told(XC + "input c 0 63;line x if c<63 go 2;line x go 1;line x halt;");
        due("the last of 64", z.most(0, 0), NONE);
        due("the last of 64", z.never(), NONE);
        due("the last of 64", z.lasting(64), NONE);
    }

    private static void mostOfALine() {
        CHECK.sentence("MOST of a LINE: how often it is gone over by the INPUT by which it is most, "
                + "the first such INPUT");
        WornLines x = Check.told(XC + "cell d 0;input c 0 63;line x set d d+1;line x if d<c go 0;line x halt;line x halt;");
        due("63 times by 63", x.most(0, 0), 63);
        due("63 times by 63", x.most(0, 1), 63);
        due("once by all", x.most(2, 0), 1);
        due("once by all: the first", x.most(2, 1), 0);
        due("never", x.most(3, 0), 0);
        due("never: the first", x.most(3, 1), 0);
        WornLines y = Check.told(XC + "line x set c c+1;line x if c<500 go 0;");
        due("500 of 1,000 steps", y.most(0, 0), 500);
        due("by input 0 alone", y.most(0, 1), 0);
        WornLines z = Check.told(XC + "input c 0 1;line x if c=1 go 1;line x if c=1 go 3;line x halt;line x halt;");
        due("not by the first", z.most(3, 1), 1);
        due("by the first alone", z.most(2, 1), 0);
    }

    private static void firstSuchInput() {
        CHECK.sentence("how often it is gone over by the INPUT by which it is most, the first such INPUT");
        // Twice by 1 and by 2, once by 0 and by 3.
        WornLines x = Check.told(XC + "cell d 0;input c 0 3;line x set d d+1;line x if (c=1 or c=2) and d<2 go 0;");
        due("twice", x.most(0, 0), 2);
        due("by 1 ahead of 2", x.most(0, 1), 1);
        due("twice", x.most(1, 0), 2);
        due("by 1 ahead of 2", x.most(1, 1), 1);
        WornLines y = Check.told(XC + "cell d 0;input c 0 3;line x set d d+1;line x if d<4-c go 0;");
        due("4 by the first", y.most(0, 0), 4);
        due("4 by the first", y.most(0, 1), 0);
    }

    private static void peak() {
        CHECK.sentence("PEAK: how worn it ever is by the INPUT by which it is most.");
        // By 0 line 0 is gone over 6 times, mended each time; by 1 three times, not mended.
        WornLines x = Check.told(XC + "cell d 0;input c 0 1;line x set d d+1;line x mend 0 by 9*(c=0);"
                + "line x if d<6-3*c go 0;line x halt;");
        due("most", x.most(0, 0), 6);
        due("most by 0", x.most(0, 1), 0);
        due("the peak is that by 1", x.most(0, 2), 3);
        due("the peak where nothing is mended", x.most(1, 2), 6);
        WornLines y = Check.told("stuff a bears 1 costs 1;cell d 0;line a set d d+1;line a if d<9 go 0;line a halt;");
        due("more than it bears", y.most(0, 2), 9);
        // What it is in the end is less than what it ever is.
        WornLines z = Check.told(XC + "line x set c c+1;line x if c<7 go 0;line x mend 0 by 9;line x mend 1 by 3;"
                + "line x halt;line x halt;");
        due("ahead of the mending", z.most(0, 2), 7);
        due("ahead of the mending", z.most(1, 2), 7);
        due("never gone over", z.most(5, 2), 0);
    }

    private static void peakWithin() {
        CHECK.sentence("PEAK: how worn it ever is by the INPUT by which it is most.");
        WornLines x = Check.told(X + "line x mend 0 by 1;line x mend 1 by 9;line x halt;");
        due("it mends itself, but was worn", x.most(0, 2), 1);
        due("it mends itself, but was worn", x.most(1, 2), 1);
        WornLines y = Check.told(XC + "line x mend 0 by c<2;line x set c c+1;line x if c<4 go 0;");
        due("twice it mends itself, then not", y.most(0, 2), 2);
        due("each input begins unworn", Check.told(XC + "input c 0 9;line x halt;").most(0, 2), 1);
    }

    private static void never() {
        CHECK.sentence("NEVER: LINES that are gone over by none.");
        due("all but the first of 16", Check.told(Check.with(X, 16, "line x halt;")).never(), 0xfffe);
        due("the 16th alone", Check.told(Check.with(X, 14, "line x write 1;") + "line x halt;line x halt;").never(), 0x8000);
        due("none of 16", Check.told(Check.with(X, 16, "line x write 1;")).never(), 0);
        due("one line", Check.told(X + "line x halt;").never(), 0);
        WornLines x = Check.told(XC + "input c 1 3;line x go c;line x halt;line x halt;line x halt;line x halt;");
        due("each by one", x.never(), 16);
        due("the last by the last alone", Check.told(XC + "input c 0 63;line x if c=63 go 2;line x halt;line x halt;").never(),
                0);
        due("it is not asked how it is laid", Check.told("stuff a bears 1 costs 1;cell c 0;line a set c c+1;"
                + "line a if c<3 go 0;line a halt;line a halt;").never(), 8);
    }

    private static void behindHowManySteps() {
        CHECK.sentence("By an INPUT, HARD: behind how many STEPS it FALLS, at which LINE.");
        WornLines x = Check.told("stuff a bears 1 costs 1;stuff b bears 2 costs 1;cell c 0;input c 0 2;"
                + "line b if c=0 go 3;line a set c c-1;line a go 0;line b halt;");
        due("0 ends", x.steps(0), 2);
        due("0 does not fall", x.falls(0), NONE);
        due("1 ends", x.steps(1), 5);
        due("2 falls", x.steps(2), 4);
        due("2 falls at 1", x.falls(2), 1);
        due("at line 0, behind one step", Check.told("stuff a bears 1 costs 1;line a go 0;").steps(0), 1);
        due("at line 0", Check.told("stuff a bears 1 costs 1;line a go 0;").falls(0), 0);
        WornLines y = Check.told(Check.with("stuff a bears 1 costs 1;", 15, "line a write 1;") + "line a go 15;");
        due("at line 15", y.falls(0), 15);
        due("behind 16 steps", y.steps(0), 16);
    }

    private static void first() {
        CHECK.sentence("FIRST: of all INPUTS that FALL the one with the fewest STEPS, then the first.");
        // By c steps are made 3 + 2 * c, then line 3 gives; by 0 it ends.
        WornLines x = Check.told("stuff a bears 1 costs 1;stuff b bears 99 costs 1;cell c 0;input c 0 5;"
                + "line b if c=0 go 4;line b set c c-1;line b if c go 1;line a go 3;line b halt;");
        due("0 ends sooner", x.steps(0), 2);
        due("1", x.steps(1), 4);
        due("2", x.steps(2), 6);
        due("the input", x.first(0), 1);
        due("its steps", x.first(1), 4);
        due("its line", x.first(2), 3);
        WornLines y = Check.told("stuff a bears 1 costs 1;stuff b bears 99 costs 1;cell c 0;input c 0 5;"
                + "line b set c c+1;line b if c<6 go 0;line a go 2;");
        due("the last has the fewest", y.first(0), 5);
        due("the last has the fewest", y.first(1), 3);
        due("one input of 64", Check.told("stuff a bears 1 costs 1;cell c 0;input c 0 63;line a if c<63 go 2;line a go 1;"
                + "line a halt;").first(0), 63);
        due("begun at a hole there is none", Check.told("stuff a bears 1 costs 1;line a halt;").first(0), NONE);
    }

    private static void firstOfEqual() {
        CHECK.sentence("the one with the fewest STEPS, then the first.");
        WornLines x = Check.told("stuff a bears 1 costs 1;cell c 0;input c 0 3;line a if c=0 go 3;line a go c;line a go 2;"
                + "line a halt;");
        // By 1 it falls at 1 behind 2 steps, by 2 at 2 and by 3 it ends.
        due("1", x.steps(1), 2);
        due("2", x.steps(2), 3);
        due("the input", x.first(0), 1);
        due("the line", x.first(2), 1);
        WornLines y = Check.told("stuff a bears 1 costs 1;cell c 0;input c 0 3;line a go 1+(c<2);line a go 1;line a go 2;");
        due("all equal: the first", y.first(0), 0);
        due("all equal: its line", y.first(2), 2);
        due("all equal: the steps", y.first(1), 2);
        WornLines z = Check.told("stuff a bears 1 costs 1;stuff b bears 9999 costs 1;cell c 0;input c 0 3;"
                + "line b if c=0 go 0;line a go 1;");
        due("besides one that is endless", z.first(0), 1);
        due("besides one that is endless", z.first(1), 2);
    }

    private static void apart() {
        CHECK.sentence("APART: the first INPUT of which the PLAIN run and the HARD one do not write the same");
        WornLines x = Check.told(XC + "input c 0 3;line x write c*worn 0;");
        due("0 * 1 is 0", x.apart(), 1);
        due("none", Check.told(XC + "input c 0 3;line x write c;").apart(), NONE);
        due("the last of 64", Check.told(XC + "input c 0 63;line x write worn 0*(c=63);").apart(), 63);
        due("a lone one", Check.told(X + "line x write worn 0;").apart(), 0);
        due("nothing is written", Check.told(X + "line x if worn 0 go 1;line x halt;").apart(), NONE);
        due("mend", Check.told(X + "line x mend 0 by 1;line x write worn 0;").apart(), NONE);
        due("another order", Check.told(X + "line x if worn 0 go 3;line x write 1;line x go 5;line x write 2;line x halt;"
                + "line x write 2;").apart(), 0);
    }

    private static void apartByTheEnd() {
        CHECK.sentence("(all that is written ahead of a FALL or the end;");
        String twice = "stuff a bears 1 costs 1;stuff b bears 99 costs 1;cell c 0;line b set c c+1;";
        due("a fall ahead of writing", Check.told(twice + "line a if c<2 go 0;line b write 1;").apart(), 0);
        due("a fall behind it", Check.told(twice + "line b write 1;line a if c<9 go 3;line a go 3;").apart(), NONE);
        due("a fall, and one written more", Check.told(twice + "line a write 1;line b if c<2 go 0;").apart(), 0);
        // 250 times 0, and then one that is not: beyond the 200 that are kept.
        due("beyond 200", Check.told(XC + "line x set c c+1;line x write worn 0=250;line x if c<251 go 0;").apart(), 0);
        due("the first 200 are the same", Check.told(XC + "line x set c c+1;line x write worn 0=252;line x if c<251 go 0;")
                .apart(), NONE);
    }

    private static void apartWithinThousand() {
        CHECK.sentence("one that is ENDLESS is asked for its first 1,000 STEPS).");
        String loop = XC + "line x set c c+1;line x if c<";
        String ahead = XC + "line x set c 0;line x set c c+1;line x if c<";
        due("step 999 writes", Check.told(loop + "499 go 0;line x write worn 0;line x go 3;").apart(), 0);
        due("step 1,000 writes", Check.told(ahead + "499 go 1;line x write worn 1;line x go 4;").apart(), 0);
        due("step 1,001 writes", Check.told(loop + "500 go 0;line x write worn 0;line x go 3;").apart(), NONE);
        due("step 1,001 writes, and ends", Check.told(loop + "500 go 0;line x write worn 0;").apart(), NONE);
        due("step 1,000 writes, and ends", Check.told(ahead + "499 go 1;line x write worn 1;").apart(), 0);
        // The PLAIN one is endless, the HARD one ends or falls.
        due("the hard one ends", Check.told(X + "line x if worn 0<9 go 0;").apart(), NONE);
        due("the hard one writes less", Check.told(X + "line x write 5;line x if worn 0<9 go 0;").apart(), 0);
        due("the hard one falls", Check.told("stuff a bears 999 costs 1;line a write 5;line a go 0;").apart(), NONE);
        due("it falls behind 998", Check.told("stuff a bears 499 costs 1;line a write 5;line a go 0;").apart(), 0);
        due("it falls behind 1,000", Check.told("stuff a bears 500 costs 1;line a write 5;line a go 0;").apart(), NONE);
    }

    private static void rounds() {
        CHECK.sentence("ROUNDS of an INPUT: it is begun again and again, HARD, what is worn stays: "
                + "how many times it comes to the end before it FALLS");
        WornLines x = Check.told("stuff a bears 6 costs 1;cell c 0;input c 1 3;line a set c c-1;line a if 0<c go 0;"
                + "line a write 1;");
        due("1 a round", x.rounds(0), 6);
        due("2 a round", x.rounds(1), 3);
        due("3 a round", x.rounds(2), 2);
        x.lay(0, 0, 4);
        due("24, but line 1 bears 6", x.rounds(1), 3);
        x.lay(1, 0, 4);
        due("24, but line 2 bears 6", x.rounds(1), 6);
        x.lay(2, 0, 4);
        due("24", x.rounds(1), 12);
        due("it falls in the first", Check.told("stuff a bears 1 costs 1;line a go 0;").rounds(0), 0);
        due("it falls in the second", Check.told("stuff a bears 1 costs 1;line a halt;").rounds(0), 1);
        due("cells begin anew", Check.told("stuff a bears 9 costs 1;cell c 2;line a set c c-1;line a if c go 0;").rounds(0), 4);
        due("worn stays", Check.told("stuff a bears 9 costs 1;line a if worn 0=3 go 0;").rounds(0), 8);
    }

    private static void roundsOfHundred() {
        CHECK.sentence("(100: as many or more;");
        for (int bears : new int[] {1, 98, 99, 100, 101, 9999}) {
            due("bears " + bears, Check.told("stuff a bears " + bears + " costs 1;line a halt;").rounds(0),
                    Math.min(bears, 100));
        }
        due("for ever", Check.told("stuff a bears 1 costs 1;line a mend 0 by 1;").rounds(0), 100);
        WornLines x = Check.told("stuff a bears 33 costs 1;line a halt;");
        x.lay(0, 0, 3);
        due("3 * 33", x.rounds(0), 99);
        x.lay(0, 0, 4);
        due("4 * 33", x.rounds(0), 100);
    }

    private static void roundsWithinThousand() {
        CHECK.sentence("a round that does not end within 1,000 STEPS counts as one that FALLS).");
        due("999 steps", Check.told(TIMES + "499 go 0;line x halt;").rounds(0), 20);
        due("1,000 steps", Check.told(TIMES + "500 go 0;").rounds(0), 19);
        due("1,001 steps", Check.told(TIMES + "500 go 0;line x halt;").rounds(0), 0);
        due("endless", Check.told(X + "line x go 0;").rounds(0), 0);
        due("the third is endless", Check.told(X + "line x if worn 0<3 go 2;line x go 1;line x halt;").rounds(0), 2);
        // The second round has two steps more than the first: 1,000, or 1,001 by a line behind.
        String longer = XC + "line x set c c+1;line x if c<498+worn 2 go 0;line x write 1;line x write 2;";
        due("998 + 2 is 1,000 in the first", Check.told(longer).steps(0), 998);
        due("1,000 in the second, 1,002 in the third", Check.told(longer).rounds(0), 2);
        due("1,001 in the second", Check.told(longer + "line x halt;").rounds(0), 1);
    }

    private static void lastingRoom() {
        CHECK.sentence("LASTING within a room (1 to 64)");
        WornLines x = Check.told(X + "line x halt;");
        for (int room : new int[] {Integer.MIN_VALUE, -1, 0, 65, Integer.MAX_VALUE}) {
            due("room " + room, x.lasting(room), NONE);
            due("room " + room, x.lasts(room, 0, 0), NONE);
            due("room " + room, x.lasts(room, 0, 1), NONE);
        }
        for (int room : new int[] {1, 2, 63, 64}) {
            due("room " + room, x.lasting(room), 1);
            due("room " + room, x.lasts(room, 0, 0), 0);
            due("room " + room, x.lasts(room, 0, 1), 1);
        }
        CHECK.sentence("all TWINS are no more than the room");
        WornLines y = Check.told(Check.with(X, 16, "line x write 1;"));
        due("16 lines in 16", y.lasting(16), 16);
        due("16 lines in 15", y.lasting(15), NONE);
        due("16 lines in 15", y.lasts(15, 0, 1), NONE);
        WornLines z = Check.told(Check.with("stuff a bears 1 costs 3;cell c 0;line a set c c+1;", 14, "line a set c c;")
                + "line a if c<4 go 0;");
        due("4 twins for each of 16 lines", z.lasting(64), 192);
        due("the last of them", z.lasts(64, 15, 1), 4);
        due("in 63", z.lasting(63), NONE);
    }

    private static void lastingTwins() {
        CHECK.sentence("STUFF and TWINS (1 to 4) for each LINE");
        String times = "stuff a bears 2 costs 1;cell c 0;line a set c c+1;line a if c<";
        for (int often = 1; often <= 9; often++) {
            WornLines x = Check.told(times + often + " go 0;");
            int twins = (often + 1) / 2;
            due("gone over " + often, x.lasting(64), twins <= 4 ? 2 * twins : NONE);
            due("gone over " + often, x.lasts(64, 1, 1), twins <= 4 ? twins : NONE);
        }
        WornLines y = Check.told("stuff a bears 1 costs 0;line a halt;line a halt;");
        due("one at least, never gone over", y.lasts(64, 1, 1), 1);
        due("one at least, never gone over", y.lasting(1), NONE);
        due("one at least, never gone over", y.lasting(2), 0);
    }

    private static void lastingPeak() {
        CHECK.sentence("so that each BEARS its PEAK at least");
        String mended = "stuff a bears 1 costs 1;cell c 0;line a set c c+1;line a mend 0 by 1;line a mend 1 by 1;"
                + "line a mend 2 by 1;line a mend 4 by 1;line a if c<2 go 0;";
        WornLines x = Check.told(mended);
        due("most", x.most(0, 0), 2);
        due("peak", x.most(0, 2), 1);
        due("the peak counts, not how often", x.lasts(64, 0, 1), 1);
        due("it is worn twice", x.lasts(64, 5, 1), 2);
        due("it is worn twice", x.lasts(64, 3, 1), 2);
        due("cost", x.lasting(64), 8);
        for (int line = 0; line < 6; line++) {
            x.lay(line, x.lasts(64, line, 0), x.lasts(64, line, 1));
        }
        due("laid so it does not fall", x.falls(0), NONE);
        due("laid so it costs so much", x.cost(), 8);
        due("how it is laid is not asked", x.lasting(64), 8);
        WornLines y = Check.told("stuff a bears 3 costs 1;stuff b bears 4 costs 9;cell c 0;line a set c c+1;"
                + "line a if c<4 go 0;");
        due("4 of 3 needs twins", y.lasting(64), 4);
        due("or the other", y.lasting(3), 11);
        due("or the other", y.lasting(2), 18);
    }

    private static void leastCost() {
        CHECK.sentence("the least cost (costs times TWINS, all together)");
        WornLines x = Check.told("stuff a bears 1 costs 999;stuff b bears 4 costs 0;stuff c bears 2 costs 1;cell d 0;"
                + "line a set d d+1;line a if d<4 go 0;");
        due("nothing", x.lasting(64), 0);
        due("nothing", x.lasting(2), 0);
        due("of b", x.lasts(2, 0, 0), 1);
        WornLines y = Check.told(Check.with("stuff a bears 1 costs 999;cell c 0;line a set c c+1;", 14, "line a set c c;")
                + "line a if c<4 go 0;");
        due("the dearest", y.lasting(64), 999 * 64);
        WornLines z = Check.told("stuff a bears 9 costs 5;stuff b bears 3 costs 1;cell c 0;line a set c c+1;"
                + "line a if c<9 go 0;");
        due("3 of b are less than one of a", z.lasting(64), 6);
        due("3 of b are less than one of a", z.lasts(64, 0, 0), 1);
        due("within 6", z.lasting(6), 6);
        due("within 5 one is a", z.lasting(5), 8);
        due("within 3", z.lasting(3), 10);
        due("within 2", z.lasting(2), 10);
        due("within 1", z.lasting(1), NONE);
    }

    private static void ofEqualOnes() {
        CHECK.sentence("of equal ones the least STUFF, then the fewest TWINS, for LINE 0, then 1, and so on.");
        WornLines x = Check.told("stuff a bears 1 costs 2;stuff b bears 2 costs 4;cell c 0;line b set c c+1;"
                + "line b if c<2 go 0;");
        due("two of a cost as much as one of b", x.lasting(64), 8);
        due("the least stuff", x.lasts(64, 0, 0), 0);
        due("the least stuff", x.lasts(64, 0, 1), 2);
        due("the least stuff", x.lasts(64, 1, 0), 0);
        WornLines y = Check.told("stuff a bears 1 costs 0;line a halt;");
        due("the fewest twins", y.lasts(64, 0, 1), 1);
        WornLines z = Check.told("stuff a bears 5 costs 1;stuff b bears 5 costs 1;stuff c bears 5 costs 1;"
                + "line c write 1;line b write 1;");
        due("the least of three", z.lasts(64, 0, 0), 0);
        due("the least of three", z.lasts(64, 1, 0), 0);
        WornLines w = Check.told("stuff a bears 1 costs 9;stuff b bears 1 costs 0;stuff c bears 4 costs 0;cell k 0;"
                + "line a set k k+1;line a if k<3 go 0;");
        due("more twins of a lesser stuff", w.lasts(64, 0, 0), 1);
        due("more twins of a lesser stuff", w.lasts(64, 0, 1), 3);
    }

    private static void ofEqualOnesWithinRoom() {
        CHECK.sentence("of equal ones the least STUFF, then the fewest TWINS, for LINE 0, then 1, and so on.");
        WornLines x = Check.told("stuff a bears 1 costs 2;stuff b bears 2 costs 4;cell c 0;line b set c c+1;"
                + "line b set c c;line b if c<2 go 0;");
        // 2 of a or 1 of b for each line; the room is for one or two lines of a.
        int[][] stuffs = {{1, 1, 1}, {0, 1, 1}, {0, 0, 1}, {0, 0, 0}, {0, 0, 0}};
        for (int room = 3; room <= 7; room++) {
            due("cost within " + room, x.lasting(room), 12);
            for (int line = 0; line < 3; line++) {
                due("within " + room + ", line " + line, x.lasts(room, line, 0), stuffs[room - 3][line]);
                due("within " + room + ", line " + line, x.lasts(room, line, 1), 2 - stuffs[room - 3][line]);
            }
        }
        due("within 2", x.lasting(2), NONE);
        // Within 4 the least stuff for line 0 would make line 1 dearer: the cost comes first.
        WornLines y = Check.told("stuff a bears 1 costs 1;stuff b bears 2 costs 2;stuff c bears 9 costs 9;cell k 0;"
                + "line a set k k;line a if worn 1<3 go not(worn 1=1);");
        due("peak of 0", y.most(0, 2), 2);
        due("peak of 1", y.most(1, 2), 3);
        int[] cost = {NONE, 11, 6, 5, 5, 5};
        int[] zero = {NONE, 1, 1, 1, 0, 0};
        int[] one = {NONE, 2, 1, 0, 0, 0};
        for (int room = 1; room <= 6; room++) {
            due("cost within " + room, y.lasting(room), cost[room - 1]);
            due("line 0 within " + room, y.lasts(room, 0, 0), zero[room - 1]);
            due("line 1 within " + room, y.lasts(room, 1, 0), one[room - 1]);
        }
    }

    private static void betterStates() {
        CHECK.sentence("BETTER MEND: by hand, if it goes on or is FALLEN");
        WornLines x = Check.told("stuff a bears 1 costs 1;line a write 1;line a halt;");
        due("nothing begun", x.better(0), NONE);
        due("nothing begun", x.better(1), NONE);
        x.begin(0);
        due("goes on", x.better(0), 0);
        due("goes on", x.better(1), 2);
        x.run(2);
        due("the end", x.better(0), NONE);
        due("the end", x.better(1), NONE);
        x.begin(0);
        due("begun at a hole", x.better(0), 0);
        due("begun at a hole: line 1 is one, too", x.better(1), 1);
        x.run(1);
        due("fallen", x.state(0), 3);
        due("fallen", x.better(0), 0);
        due("fallen", x.better(1), 1);
        WornLines y = Check.told(X + "cell k 0;line x mend k by 9999;line x set k k+1;line x go 0;");
        y.begin(0);
        y.run(1000000);
        due("spent", y.better(0), NONE);
        due("spent", y.better(1), NONE);
        due("a new object", new WornLines().better(0), NONE);
    }

    private static void better() {
        CHECK.sentence("the LINE which, if it were not worn at all now, would let it make the most STEPS HARD "
                + "from here on");
        WornLines x = Check.told("stuff a bears 3 costs 1;stuff b bears 5 costs 1;line b go 1;line a go 2;line b go 0;");
        x.begin(0);
        due("unworn: line 1 gives behind 3", x.better(1), 10);
        due("unworn: all equal", x.better(0), 0);
        x.run(7);
        due("line 1 is worn 2", x.line(1, 4), 2);
        // Mended, line 1 bears 3 more; lines 0 and 2 bear 2 and 3 more from here.
        due("line 1", x.better(0), 1);
        due("line 1", x.better(1), 8);
        due("it is only asked", x.line(1, 4), 2);
        x.run(99);
        due("fallen at 1", x.state(1), 1);
        due("mended it goes on", x.better(0), 1);
        due("mended it goes on", x.better(1), 5);
        due("still fallen", x.state(0), 3);
        due("by hand as it is worn, not unworn", x.line(0, 4), 4);
    }

    private static void betterOfThousand() {
        CHECK.sentence("(1,000 at most are asked about;");
        for (int bears : new int[] {998, 999, 1000, 1001, 9999}) {
            WornLines x = Check.told("stuff a bears " + bears + " costs 1;line a go 0;");
            x.begin(0);
            due("bears " + bears, x.better(1), Math.min(bears, 1000));
            x.run(bears + 1);
            due("fallen, bears " + bears, x.better(1), Math.min(bears, 1000));
        }
        // What differs beyond 1,000 steps is not asked about: the first of equal ones.
        WornLines y = Check.told("stuff a bears 700 costs 1;stuff b bears 600 costs 1;line a go 1;line b go 0;");
        y.begin(0);
        y.run(200);
        due("1,001 by line 0, 1,200 by line 1", y.better(1), 1000);
        due("the first", y.better(0), 0);
        y.run(2);
        due("999 by line 0", y.better(1), 1000);
        due("999 by line 0", y.better(0), 1);
    }

    private static void betterAndTheEnd() {
        CHECK.sentence("the end counts as no more)");
        for (int times : new int[] {1, 499, 500, 501}) {
            WornLines x = Check.told(TIMES + times + " go 0;");
            x.begin(0);
            due("ends by " + 2 * times, x.better(1), Math.min(2 * times, 1000));
            due("the first", x.better(0), 0);
        }
        // Unworn, line 0 lets it end at once; worn, it goes on for long.
        WornLines y = Check.told(XC + "line x if worn 0<3 go 2;line x go 0;line x halt;");
        y.begin(0);
        y.run(9);
        y.begin(0);
        y.run(9);
        y.begin(0);
        due("worn 2", y.line(0, 4), 2);
        due("to go on is more than to end", y.better(0), 1);
        due("to go on is more than to end", y.better(1), 1000);
    }

    private static void betterOfEqual() {
        CHECK.sentence("of equal ones the first.");
        WornLines x = Check.told("stuff a bears 2 costs 1;line a go 1;line a go 2;line a go 0;");
        x.begin(0);
        due("all unworn", x.better(0), 0);
        due("all unworn", x.better(1), 6);
        x.run(3);
        due("line 0 gives first", x.better(0), 0);
        due("then line 1", x.better(1), 4);
        x.run(1);
        due("line 0 is a hole behind two", x.better(0), 0);
        due("mended, line 1 gives", x.better(1), 3);
        WornLines y = Check.told("stuff a bears 1 costs 1;stuff b bears 9 costs 1;line b go 2;line b halt;line a go 3;"
                + "line a go 2;");
        y.begin(0);
        y.run(9);
        due("fallen at 2", y.state(1), 2);
        due("line 2 alone", y.better(0), 2);
        due("line 2 alone", y.better(1), 1);
        // By input 2 it goes on for ever if line 1 or line 2 is not worn.
        WornLines z = Check.told(XC + "input c 0 2;line x go 1+c;line x halt;line x halt;"
                + "line x if worn 1=0 or worn 2=0 go 3;line x halt;");
        for (int input = 0; input < 3; input++) {
            z.begin(input);
            z.run(input < 2 ? 9 : 0);
        }
        due("line 1 ahead of 2", z.better(0), 1);
        due("line 1 ahead of 2", z.better(1), 1000);
    }

    private static void betterIsALine() {
        CHECK.sentence("the LINE which, if it were not worn at all now, would let it make the most STEPS HARD "
                + "from here on");
        // Worn as it is it would go on for ever, but some line is mended, and there is but this one.
        WornLines x = Check.told(X + "line x if 2<worn 0 go 0;");
        for (int round = 0; round < 2; round++) {
            x.begin(0);
            due("it ends", x.run(9), 1);
        }
        x.begin(0);
        due("the one line", x.better(0), 0);
        due("then it ends", x.better(1), 1);
        due("as it is it goes on", x.run(2000), 2000);
        WornLines y = Check.told(Check.with("stuff a bears 1 costs 1;stuff b bears 9 costs 1;", 15, "line b write 1;")
                + "line a go 15;");
        y.begin(0);
        y.run(99);
        due("fallen at 15", y.state(1), 15);
        due("the last of 16", y.better(0), 15);
        due("the last of 16", y.better(1), 1);
        y.begin(0);
        due("from line 0 on", y.better(0), 15);
        due("from line 0 on", y.better(1), 16);
    }

    private static void sameAsMany() {
        CHECK.sentence("SAME as the PROGRAMME of a MARK: PLAIN, for all INPUTS (it must have as many)");
        WornLines x = Check.told(XC + "input c 0 63;line x write 1;");
        x.mark(0, false);
        Check.programme(x, XC + "cell d 0;input c 0 7;input d 5 12;line x write 1;");
        due("64 and 8 * 8", x.same(0), -1);
        Check.programme(x, XC + "input c 0 62;line x write 1;");
        due("64 and 63", x.same(0), -2);
        Check.programme(x, X + "line x write 1;");
        due("64 and one", x.same(0), -2);
        x.mark(1, false);
        Check.programme(x, XC + "input c 9 9;line x write 1;");
        due("one and one", x.same(1), -1);
        Check.programme(x, XC + "input c 0 1;line x write 1;");
        due("one and two", x.same(1), -2);
        due("a mark that is empty", x.same(2), -2);
        due("no mark", x.same(4), -2);
        Check.programme(x, XC + "input c 0 63;");
        due("no line", x.same(0), -2);
        x.mark(3, false);
        x.mark(0, true);
        due("no line in the mark", x.same(3), -2);
    }

    private static void sameWrites() {
        CHECK.sentence("the first INPUT of which they do not write the same");
        WornLines x = Check.told(XC + "input c 0 63;line x write c;");
        x.mark(0, false);
        due("the same", x.same(0), -1);
        Check.programme(x, XC + "input c 0 63;line x write c+(c=63);");
        due("the last", x.same(0), 63);
        Check.programme(x, XC + "input c 1 64;line x write c;");
        due("the first", x.same(0), 0);
        Check.programme(x, XC + "input c 1 64;line x write c-1;");
        due("by their numbers, not their cells", x.same(0), -1);
        Check.programme(x, XC + "input c 0 63;line x write c;line x if c=5 go 3;line x halt;line x write c;");
        due("one written more", x.same(0), 5);
        Check.programme(x, XC + "input c 0 63;line x if c=7 go 2;line x write c;");
        due("one written more", x.same(0), 7);
        Check.programme(x, "stuff y bears 1 costs 1;" + "cell c 0;cell k 0;input c 0 63;line y set k k+1;"
                + "line y if k<9 go 0;line y write c+worn 0;");
        due("another way to the same", x.same(0), -1);
        Check.programme(x, XC + "cell k 0;line x set k k+1;line x write k=250;line x if k<251 go 0;");
        x.mark(1, false);
        Check.programme(x, XC + "cell k 0;line x set k k+1;line x write k=252;line x if k<251 go 0;");
        due("beyond 200", x.same(1), 0);
        Check.programme(x, XC + "cell k 0;line x set k k+1;line x write 1*(k=250);line x if k<251 go 0;");
        due("the same beyond 200", x.same(1), -1);
    }

    private static void sameEnds() {
        CHECK.sentence("or one ends within 1,000 STEPS and the other does not.");
        String[] texts = {TIMES + "499 go 0;line x halt;", TIMES + "500 go 0;", TIMES + "500 go 0;line x halt;",
            X + "line x go 0;", X + "line x halt;"};
        boolean[] ends = {true, true, false, false, true};
        for (int i = 0; i < texts.length; i++) {
            WornLines x = Check.told(texts[i]);
            x.mark(0, false);
            for (int j = 0; j < texts.length; j++) {
                Check.programme(x, texts[j]);
                due(texts[j] + " as " + texts[i], x.same(0), ends[i] == ends[j] ? -1 : 0);
            }
        }
        WornLines y = Check.told(XC + "input c 0 3;line x if c=2 go 0;");
        y.mark(0, false);
        Check.programme(y, XC + "input c 0 3;line x halt;");
        due("one input of four", y.same(0), 2);
        // A line that would give in the PLAIN run does not.
        Check.programme(y, "stuff a bears 1 costs 1;cell c 0;input c 0 3;line a if c=2 go 0;");
        due("no holes", y.same(0), -1);
    }

    private static void marks() {
        CHECK.sentence("MARKS 0 to 3 hold the PROGRAMME, how it is LAID, what is worn, the machine as it goes.");
        WornLines x = Check.told(XC + "stuff y bears 3 costs 2;input c 0 3;line y write c;line x set c c+1;line y go 0;");
        for (int mark = 0; mark < 4; mark++) {
            x.lay(0, 1, mark + 1);
            x.begin(mark);
            x.run(mark + 1);
            due("mark " + mark, x.mark(mark, false) ? 1 : 0, 1);
        }
        for (int none : new int[] {Integer.MIN_VALUE, -1, 4, Integer.MAX_VALUE}) {
            due("no mark " + none, x.mark(none, false) ? 1 : 0, 0);
            due("no mark " + none, x.mark(none, true) ? 1 : 0, 0);
        }
        int[] cells = {0, 2, 3, 4};
        int[] worn = {1, 1, 1, 2};
        Check.programme(x, "cell q 1;");
        for (int mark = 3; mark >= 0; mark--) {
            due("back to " + mark, x.mark(mark, true) ? 1 : 0, 1);
            due("the programme", x.count(3), 3);
            due("the inputs", x.inputs(), 4);
            due("how it is laid", x.line(0, 2), mark + 1);
            due("what is worn", x.line(0, 4), worn[mark]);
            due("the steps", x.state(2), mark + 1);
            due("the cells", Check.cell(x, 0), cells[mark]);
            due("what was written", Check.wrote(x, 0), mark);
            x.fresh();
            x.begin(0);
        }
        due("a mark stays when gone back to", x.mark(3, true) ? 1 : 0, 1);
        due("a mark stays when gone back to", x.state(2), 4);
    }
}
