/** 'Terms' of the document: each sentence that names a boundary case, by a test of its own. */
public final class EdgesOfTextTest {
    private static final Check CHECK = new Check();
    private static final int NONE = WornLines.NONE;
    private static final int LEAST = Integer.MIN_VALUE;
    private static final int GREATEST = Integer.MAX_VALUE;
    private static final String X = "stuff x bears 9999 costs 1;";
    private static final String XC = X + "cell c 7;";
    private static final String WRITE = XC + "line x write ";
    private static final String[] NESTS = {"(", "not ", "worn "};

    public static void main(String[] args) {
        tapeOfSigns();
        tapeOfThousand();
        tapeIsTaken();
        asLongAsCanBe();
        blanks();
        words();
        numbers();
        signs();
        allElse();
        anyNumber();
        stuffs();
        cells();
        inputsOfCells();
        allInputs();
        lines();
        acts();
        names();
        alike();
        fromTheLeft();
        tests();
        sumsAndProducts();
        parts();
        withinFive();
        truths();
        intsWrap();
        goModulo();
        mendModulo();
        places();
        theEnd();
        firstWrongToken();
        leastKind();
        kindsOneAndTwo();
        kindsThreeAndFour();
        kindFive();
        withoutFault();
        CHECK.end();
    }

    private static void due(String call, long got, long want) {
        CHECK.due(call, got, want);
    }

    private static void fault(int kind, String marked) {
        CHECK.fault(kind, marked);
    }

    private static void fine(String text) {
        CHECK.fine(text);
    }

    private static void value(String e, int want) {
        WornLines x = Check.told(WRITE + e + ";line x write 1;");
        x.begin(0);
        x.run(1);
        due(e, Check.wrote(x, 0), want);
    }

    private static void tapeOfSigns() {
        CHECK.sentence("The TAPE has at most 1,000 signs, 10 and 32 .. 126");
        for (int sign = 0; sign < 256; sign++) {
            boolean one = sign == 10 || sign >= 32 && sign <= 126;
            WornLines x = new WornLines();
            due("sign " + sign + " as the highest", x.feed((long) sign << 56, 0, 0), one ? 1 : 0);
            due("sign " + sign + " as the lowest", x.feed(0, 0, sign), one ? 2 : 0);
        }
    }

    private static void tapeOfThousand() {
        CHECK.sentence("The TAPE has at most 1,000 signs, 10 and 32 .. 126");
        WornLines x = new WornLines();
        due("999", Check.feed(x, Check.with("", 999, " ")), 999);
        due("1,000", Check.feed(x, ";"), 1000);
        due("1,001", Check.feed(x, "#"), 1000);
        due("1,024", Check.feed(x, Check.with("", 24, "#")), 1000);
        due("count(4)", x.count(4), 1000);
        due("the sign at 999 is the last", x.programme(), 1 + 16 * 999);
        WornLines y = new WornLines();
        due("984", Check.feed(y, Check.with("", 984, " ")), 984);
        due("16 of 24", y.feed(0x2020202020202020L, 0x2020202020202020L, 0x2320202020202020L), 1000);
        due("what is beyond is left out", y.programme(), 0);
        fine(Check.with("cell a 1", 991, " ") + ";");
        due("the ; at 1,000 is left out", Check.programme(new WornLines(), Check.with("cell a 1", 992, " ") + ";"),
                1 + 16 * 1000);
        due("none of 1,000 is one", Check.programme(new WornLines(), Check.with("", 1000, "#")), 1);
        due("a word of 1,000 is none", Check.programme(new WornLines(), Check.with("", 1000, "a")), 1);
        due("a number of 1,000 is none", Check.programme(new WornLines(), Check.with("", 1000, "9")), 1);
    }

    private static void tapeIsTaken() {
        CHECK.sentence("what reads it takes it: it is empty then");
        WornLines x = new WornLines();
        due("programme()", Check.programme(x, "cell a 1;"), 0);
        due("count(4)", x.count(4), 0);
        due("fault", Check.programme(x, "cell a 1"), 1 + 16 * 8);
        due("behind a fault", x.count(4), 0);
        due("the empty tape is a programme", x.programme(), 0);
        due("without a cell", x.count(1), 0);
        due("the next text begins at 0", Check.programme(x, "  ;"), 1 + 16 * 2);
        x.feed(0x2323000000000000L, 0, 0);
        due("other calls do not read it", x.begin(0) ? 1 : 0, 0);
        x.mark(0, false);
        x.mark(0, true);
        due("it is still there", x.count(4), 2);
    }

    private static void asLongAsCanBe() {
        CHECK.sentence("TOKENS, each as long as can be");
        fault(1, "@cella 1;");
        fault(1, "@stuffx bears 1 costs 1;");
        fault(2, WRITE + "@notc;");
        fault(2, WRITE + "@wornc;");
        fault(1, WRITE + "1 @andc;");
        fault(1, XC + "line x @gogo 1;");
        fault(1, "cell a @12345;");
        fine("cell celll 1;cell nota 2;cell wornout 3;cell orand 4;" + X + "line x write nota+wornout*orand-celll;");
        fine("cell a 1234;");
        fault(1, "cell a 12 @34;");
    }

    private static void blanks() {
        CHECK.sentence("blanks (10, 32) between where one likes");
        fine("");
        fine(" ");
        fine("\n");
        fine(" \n\n  \n");
        fine("\ncell\na\n1\n;\n");
        fine("cell a1;input a0 1;stuff x bears1costs1;line x if a=1go0;line x mend(a)by(a);line x write(a)and(a);");
        fine("  stuff  x  bears  1  costs  1  ;  line  x  write  (  1  +  2  )  *  3  <  4  ;  ");
        fine(Check.with("cell a 1;", 982, "\n") + "cell b 1;");
        fault(1, "cell a 1;@c ell b 1;");
        fault(1, "cell a 1;cell b 1 @2;");
    }

    private static void words() {
        CHECK.sentence("WORDS (letters a .. z, 8 at most)");
        fine("cell a 1;cell z 1;cell az 1;");
        fine("cell abcdefgh 1;cell zzzzzzzz 1;");
        fine("cell stuffing 1;");
        fault(1, "cell @abcdefghi 1;");
        fault(1, "cell @zzzzzzzzz 1;");
        fault(1, "cell @" + Check.with("", 17, "b") + " 1;");
        fault(1, "cell @` 1;");
        fault(1, "cell a@{ 1;");
        fault(1, "cell @A 1;");
        fault(1, "cell a@Z 1;");
        fault(1, "@Cell a 1;");
        // Words of 8 that differ in one sign alone, the first or the last, are others.
        fine("cell aaaaaaaa 1;cell aaaaaaab 1;cell baaaaaaa 1;cell aaaaaaa 1;");
        fault(3, "cell aaaaaaaa 1;cell aaaaaaab 1;cell @aaaaaaaa 1;");
    }

    private static void numbers() {
        CHECK.sentence("NUMBERS (1 to 4 digits; a letter may stand right behind)");
        fine("cell a 0;cell b 9;cell c 00;cell d 0009;cell e 9999;");
        fault(1, "cell a @;");
        fault(1, "cell a @10000;");
        fault(1, "cell a @00000;");
        fault(1, "cell a 1@/;");
        fault(1, "cell a 1@:;");
        fine("stuff a bears 1costs 999;");
        fine(XC + "line x if 1go 1;line x mend 1by 1;line x call 1keep c;line x write 1and 1or 1;");
        fault(1, "cell a 1@b;");
        fault(1, "cell a @12345b;");
        due("0012 is 12", Check.told("cell a 0012;").input(0, 0), 12);
        due("0000 is 0", Check.told("cell a 0000;").input(0, 0), 0);
    }

    private static void signs() {
        CHECK.sentence("the signs ( ) < = + - * ;  All else (a longer WORD or NUMBER, too, at its first sign) is none.");
        fine(WRITE + "(1)<(2);" + "line x write 1=1;line x write 1+1-1*1;");
        for (char sign = 33; sign <= 126; sign++) {
            boolean letter = sign >= 'a' && sign <= 'z';
            boolean digit = sign >= '0' && sign <= '9';
            if ("<=+-*".indexOf(sign) >= 0) {
                fine(WRITE + "1" + sign + "1;");
                fine(WRITE + "1 " + sign + " 1;");
            } else if (!letter && !digit) {
                // Behind a ; the next told begins, so it is what comes then that can't stand there.
                fault(1, WRITE + "1" + (sign == ';' ? ";@1;" : "@" + sign + "1;"));
            }
        }
        fault(1, WRITE + "1<@=1;");
        fault(1, WRITE + "1=@=1;");
        fault(1, WRITE + "1*@*1;");
        fault(1, WRITE + "1+@+1;");
        fault(1, WRITE + "1-@-1;");
    }

    private static void allElse() {
        CHECK.sentence("All else (a longer WORD or NUMBER, too, at its first sign) is none.");
        fault(1, "  @abcdefghi");
        fault(1, "  @123456789");
        fault(1, XC + "line x write c+@123451;");
        fault(1, XC + "line x write c+@ccccccccc;");
        fault(1, XC + "line x write c@.5;");
        fault(1, XC + "line x write c @!= 1;");
        fault(1, "@\"cell\" a 1;");
        fault(1, "cell a 1;@~");
    }

    private static void anyNumber() {
        CHECK.sentence("PROGRAMME: any number of   stuff NAME bears N costs N ;   cell NAME N ;   input NAME N N ;"
                + "   line NAME ACT ;");
        fine("");
        fine("cell a 1;stuff b bears 1 costs 1;line b write a;cell c 2;line b write c;input c 0 1;input a 0 1;"
                + "stuff d bears 1 costs 0;line d halt;");
        WornLines x = Check.told("");
        due("none: no line", x.count(3), 0);
        due("none: input 0 alone", x.inputs(), 1);
        due("none: begin(0)", x.begin(0) ? 1 : 0, 0);
        fault(1, "cell a 1;@;");
        fault(1, "cell a 1@");
        fault(1, "@1");
    }

    private static void stuffs() {
        CHECK.sentence("stuff: 4 at most, numbered as told; bears 1 to 9999, costs 0 to 999.");
        fault(4, "stuff a bears @0 costs 1;");
        fault(4, "stuff a bears @0000 costs 1;");
        fault(1, "stuff a bears @10000 costs 1;");
        fault(4, "stuff a bears 1 costs @1000;");
        fault(4, "stuff a bears 1 costs @9999;");
        fault(1, "stuff a bears 1 costs @-1;");
        String four = "stuff a bears 1 costs 0;stuff b bears 2 costs 999;stuff c bears 9998 costs 1;"
                + "stuff d bears 9999 costs 998;";
        WornLines x = Check.told(four);
        int[] bears = {1, 2, 9998, 9999};
        int[] costs = {0, 999, 1, 998};
        for (int i = 0; i < 4; i++) {
            due("bears " + i, x.stuff(i, 0), bears[i]);
            due("costs " + i, x.stuff(i, 1), costs[i]);
        }
        due("4 at most", x.stuff(4, 0), NONE);
        fault(5, four + "@stuff e bears 1 costs 1;");
    }

    private static void cells() {
        CHECK.sentence("cell: 6 at most, numbered as told; what it is at first, 0 to 9999.");
        String six = "cell a 0;cell b 9999;cell c 1;cell d 9998;cell e 5;cell f 6;";
        WornLines x = Check.told(six + X + "line x halt;");
        int[] first = {0, 9999, 1, 9998, 5, 6};
        x.begin(0);
        for (int i = 0; i < 6; i++) {
            due("cell " + i, Check.cell(x, i), first[i]);
            due("input(0, " + i + ")", x.input(0, i), first[i]);
        }
        due("6 at most", x.input(0, 6), NONE);
        fault(5, six + "@cell g 1;");
        fault(1, "cell a @10000;");
        fault(1, "cell a @-1;");
    }

    private static void inputsOfCells() {
        CHECK.sentence("input: a CELL told, each once, 2 at most: its least and its greatest number "
                + "(0 to 9999, not less than the least)");
        String three = "cell a 1;cell b 2;cell c 3;";
        fault(2, "input @a 1 2;" + three);
        fault(2, X + "input @x 1 2;");
        fault(3, three + "input a 0 1;input @a 2 3;");
        fault(3, three + "input b 0 1;input @b 0 1;");
        fault(5, three + "input a 0 1;input b 0 1;@input c 0 1;");
        fine(three + "input a 0 0;input b 9999 9999;");
        fine(three + "input a 5 5;");
        fault(4, three + "input a 5 @4;");
        fault(4, three + "input a 1 @0;");
        fault(4, three + "input a 9999 @9998;");
        fault(1, three + "input a @10000 1;");
        fault(1, three + "input a 1 @10000;");
        WornLines x = Check.told(three + "input c 9998 9999;");
        due("the least", x.input(0, 2), 9998);
        due("the greatest", x.input(1, 2), 9999);
        due("no more", x.input(2, 2), NONE);
    }

    private static void allInputs() {
        CHECK.sentence("all INPUTS (each number of the one with each of the other) 64 at most");
        int[][] pairs = {{1, 1}, {1, 64}, {64, 1}, {2, 32}, {32, 2}, {8, 8}, {7, 9}, {3, 21}, {21, 3}, {1, 65}, {2, 33},
            {33, 2}, {8, 9}, {9, 8}, {5, 13}, {64, 2}, {63, 2}, {64, 10000}, {1, 10000}};
        for (int[] pair : pairs) {
            int all = pair[0] * pair[1];
            String one = "cell a 1;cell b 2;input a 0 " + (pair[0] - 1) + ";";
            if (all <= 64) {
                due(pair[0] + " with " + pair[1], Check.told(one + "input b 0 " + (pair[1] - 1) + ";").inputs(), all);
            } else {
                fault(5, one + "input b 0 @" + (pair[1] - 1) + ";");
            }
        }
        due("64 by one", Check.told("cell a 1;input a 9936 9999;").inputs(), 64);
        fault(5, "cell a 1;input a 9935 @9999;");
        fault(5, "cell a 1;input a 0 @64;");
        fault(5, "cell a 1;input a 0 @9999;");
    }

    private static void lines() {
        CHECK.sentence("line: 16 at most, numbered from 0 as told: of a STUFF told.");
        String sixteen = Check.with(X + "cell c 0;stuff y bears 5 costs 2;line y write 1;", 14, "line x set c 1;")
                + "line y halt;";
        WornLines x = Check.told(sixteen);
        due("16", x.count(3), 16);
        due("from 0", x.line(0, 0), 1);
        due("the stuff told", x.line(0, 1), 1);
        due("1", x.line(1, 0), 0);
        due("1", x.line(1, 1), 0);
        due("14", x.line(14, 0), 0);
        due("15", x.line(15, 0), 6);
        due("no 16th from 0", x.line(16, 0), NONE);
        fault(5, sixteen + "@line x halt;");
        fault(2, "line @x halt;" + X);
        fault(2, XC + "line @c halt;");
        fault(2, X + "line @y halt;");
    }

    private static void acts() {
        CHECK.sentence("ACT:   set NAME E   (a CELL told)   write E   go E   if E go E   call E keep NAME   "
                + "(a CELL told)   mend E by E   halt   .");
        fine(XC + "line x set c c;line x write c;line x go c;line x if c go c;line x call c keep c;"
                + "line x mend c by c;line x halt;");
        fault(2, X + "line x set @c 1;cell c 1;");
        fault(2, XC + "line x set @x 1;");
        fault(2, X + "line x call 1 keep @c;cell c 1;");
        fault(2, XC + "line x call 1 keep @x;");
        fault(1, XC + "line x set c@;");
        fault(1, XC + "line x set @;");
        fault(1, XC + "line x write@;");
        fault(1, XC + "line x go@;");
        fault(1, XC + "line x if@;");
        fault(1, XC + "line x if c@;");
        fault(1, XC + "line x if c go@;");
        fault(1, XC + "line x call@;");
        fault(1, XC + "line x call c@;");
        fault(1, XC + "line x call c keep@;");
        fault(1, XC + "line x mend@;");
        fault(1, XC + "line x mend c@;");
        fault(1, XC + "line x mend c by@;");
        fault(1, XC + "line x@;");
        fault(1, XC + "line x halt @c;");
    }

    private static void names() {
        CHECK.sentence("A NAME is another WORD than stuff, bears, costs, cell, input, line, set, write, go, if, call, "
                + "keep, mend, by, halt, worn, not, and, or");
        String[] kept = {"stuff", "bears", "costs", "cell", "input", "line", "set", "write", "go", "if", "call", "keep",
            "mend", "by", "halt", "worn", "not", "and", "or"};
        for (String word : kept) {
            fault(1, "stuff @" + word + " bears 1 costs 1;");
            fault(1, "cell @" + word + " 1;");
            fault(1, "input @" + word + " 0 1;");
            fault(1, "line @" + word + " halt;");
            fault(1, XC + "line x set @" + word + " 1;");
            fault(1, XC + "line x call 1 keep @" + word + ";");
            fine("cell " + word + "s 1;stuff " + word.substring(1) + "s bears 1 costs 1;");
        }
        fine("cell told 1;cell twin 1;cell name 1;cell act 1;cell e 1;cell none 1;");
        fine("cell mark 1;cell programm 1;cell hole 1;cell fall 1;cell soft 1;cell hard 1;");
    }

    private static void alike() {
        CHECK.sentence("no two (STUFFS, CELLS) are alike.");
        fault(3, "stuff a bears 1 costs 1;stuff @a bears 2 costs 2;");
        fault(3, "stuff a bears 1 costs 1;cell @a 1;");
        fault(3, "cell a 1;stuff @a bears 1 costs 1;");
        fault(3, "cell a 1;cell @a 1;");
        fault(3, "cell a 1;cell b 1;cell c 1;cell d 1;cell e 1;cell @a 1;");
        fault(3, "stuff a bears 1 costs 1;stuff b bears 1 costs 1;stuff c bears 1 costs 1;stuff @c bears 1 costs 1;");
        fine("cell a 1;cell aa 1;cell aaa 1;stuff aaaa bears 1 costs 1;stuff aaaaa bears 1 costs 1;");
    }

    private static void fromTheLeft() {
        CHECK.sentence("E: TEST { and TEST or or TEST }, from the left");
        value("1 or 1 and 0", 0);
        value("1 or (1 and 0)", 1);
        value("0 and 1 or 1", 1);
        value("0 and (1 or 1)", 0);
        value("1 or 0 and 0 or 1 and 0", 0);
        value("0 or 5", 1);
        value("5 and 6", 1);
        value("6", 6);
        fault(1, WRITE + "1 and@;");
        fault(1, WRITE + "@or 1;");
        fault(1, WRITE + "1 and @or 1;");
    }

    private static void tests() {
        CHECK.sentence("TEST: SUM, or SUM < SUM, or SUM = SUM");
        value("1+1<1+2", 1);
        value("1+2=2+1", 1);
        value("3<3", 0);
        value("2<3", 1);
        value("3=2", 0);
        value("1<2 and 2<3", 1);
        value("3<2 or 2=2", 1);
        value("(1<2)<3", 1);
        value("3<(1<2)", 0);
        fault(1, WRITE + "1<2@<3;");
        fault(1, WRITE + "1=2@=3;");
        fault(1, WRITE + "1<2@=1;");
        fault(1, WRITE + "1=2@<1;");
        fault(1, WRITE + "1<@;");
        fault(1, WRITE + "@<1;");
    }

    private static void sumsAndProducts() {
        CHECK.sentence("SUM: PRODUCT { + or - PRODUCT }; PRODUCT: PART { * PART }");
        value("9-3-2", 4);
        value("9-(3-2)", 8);
        value("9-3+2", 8);
        value("2+3*4", 14);
        value("2*3+4", 10);
        value("2*3*4", 24);
        value(Check.with("1", 200, "+1"), 201);
        value(Check.with("1", 200, "*1"), 1);
        fault(1, WRITE + "@+1;");
        fault(1, WRITE + "@-1;");
        fault(1, WRITE + "@*1;");
        fault(1, WRITE + "1+@;");
        fault(1, WRITE + "1-@-1;");
        fault(1, WRITE + "1*@;");
    }

    private static void parts() {
        CHECK.sentence("PART: a NUMBER, the NAME of a CELL told ahead, worn PART (how worn the LINE of that number is), "
                + "not PART, ( E )");
        value("0", 0);
        value("9999", 9999);
        value("c", 7);
        value("worn 0", 1);
        value("worn 1", 0);
        value("worn 0+1", 2);
        value("not 0+1", 2);
        value("not 1*5", 0);
        value("worn c", 0);
        value("worn(c-1)", 1);
        value("(0 or 2)", 1);
        fault(2, X + "line x write @c;cell c 1;");
        fault(2, XC + "line x write c+@d;cell d 1;");
        fault(1, WRITE + "(@);");
        fault(1, WRITE + "(1@;");
        fault(1, WRITE + "1@);");
        fault(1, WRITE + "worn@;");
        fault(1, WRITE + "not@;");
        fault(1, WRITE + "worn @- 1;");
    }

    /** All 243 ways to lie within 5, and all 81 to lie within 4. */
    private static void withinFive() {
        CHECK.sentence("no PART lies within 5 of worn, not and ( ).");
        for (int way = 0; way < 243; way++) {
            StringBuilder open = new StringBuilder();
            StringBuilder close = new StringBuilder();
            int rest = way;
            for (int depth = 1; depth <= 5; depth++) {
                open.append(NESTS[rest % 3]);
                close.append(rest % 3 == 0 ? ")" : "");
                rest /= 3;
                if (depth == 4 && rest == 0) {
                    fine(WRITE + open + "c" + close + ";");
                }
            }
            fault(5, WRITE + open + "@1" + close + ";");
            fault(5, WRITE + open + "@" + NESTS[way % 3] + "1" + (way % 3 == 0 ? ")" : "") + close + ";");
        }
        fault(5, WRITE + "1+(2+(3+(4+(5+(@6)))));");
        fault(5, WRITE + "((((1+(@2*3)))));");
        fine(WRITE + "((((1))))+((((2))))*not not not not 3<worn worn worn worn 4;");
        fine(XC + "line x if ((((1)))) go ((((2))));line x mend ((((1)))) by ((((2))));");
        fault(5, XC + "line x if ((((1)))) go (((((@2)))));");
        fault(5, XC + "line x mend ((((1)))) by (((((@2)))));");
        fault(5, XC + "line x set c (((((@2)))));");
        fault(5, XC + "line x go (((((@2)))));");
        fault(5, XC + "line x call (((((@2))))) keep c;");
    }

    private static void truths() {
        CHECK.sentence("Of not, and, or, < and = comes 1 or 0; what is not 0 is so");
        for (int number : new int[] {1, 2, 9999, -1, LEAST, GREATEST}) {
            String e = Check.spelled(number);
            value("not " + e, 0);
            value("not not " + e, 1);
            value(e + " and " + e, 1);
            value(e + " and 0", 0);
            value("0 and " + e, 0);
            value(e + " or 0", 1);
            value("0 or " + e, 1);
            value(e + "=" + e, 1);
            value(e + "<" + e, 0);
            WornLines x = Check.told(XC + "line x if " + e + " go 2;line x halt;line x halt;");
            x.begin(0);
            x.run(1);
            due("if " + e, x.state(1), 2);
        }
        value("not 0", 1);
        value("0 and 0", 0);
        value("0 or 0", 0);
        value("0=0", 1);
        value("0<0", 0);
    }

    private static void intsWrap() {
        CHECK.sentence("ints wrap.");
        value("2048*1024*1024", LEAST);
        value("2048*1024*1024-1", GREATEST);
        value("2048*1024*1024-1+1", LEAST);
        value("0-2048*1024*1024", LEAST);
        value("2048*1024*1024*2", 0);
        value("4096*1024*1024+5", 5);
        value("not(4096*1024*1024)", 1);
        value("9999*9999*9999", 9999 * 9999 * 9999);
        value("(2048*1024*1024-1)*(2048*1024*1024-1)", 1);
        value("2048*1024*1024<0", 1);
        value("2048*1024*1024-1<0", 0);
        // Not by the sign of what is between them, which wraps.
        value("2048*1024*1024<2048*1024*1024-1", 1);
        value("2048*1024*1024-1<2048*1024*1024", 0);
        value("2048*1024*1024-1<0-1", 0);
        value("2048*1024*1024<1", 1);
    }

    private static void goModulo() {
        CHECK.sentence("A LINE of a number: modulo the LINES, from 0 on.");
        for (int lines = 1; lines <= 16; lines++) {
            int[] numbers = {0, 1, lines - 1, lines, lines + 1, 9999, -1, -lines, -lines - 1, -9999, LEAST, GREATEST};
            for (int number : numbers) {
                String e = Check.spelled(number);
                String rest = Check.with("", lines - 1, "line x halt;");
                int want = Math.floorMod(number, lines);
                nextIs(XC + "line x go " + e + ";" + rest, want);
                nextIs(XC + "line x if 1 go " + e + ";" + rest, want);
                nextIs(XC + "line x call " + e + " keep c;" + rest, want);
                WornLines x = Check.told(WRITE + "worn " + e + ";" + rest);
                x.begin(0);
                x.run(1);
                due("worn " + e + " of " + lines, Check.wrote(x, 0), want == 0 ? 1 : 0);
            }
        }
    }

    private static void nextIs(String text, int want) {
        WornLines x = Check.told(text);
        x.begin(0);
        x.run(1);
        due(text, x.state(1), want);
    }

    private static void mendModulo() {
        CHECK.sentence("A LINE of a number: modulo the LINES, from 0 on.");
        for (int lines = 1; lines <= 16; lines++) {
            for (int number : new int[] {0, lines - 1, lines, -1, -lines - 1, LEAST, GREATEST}) {
                WornLines x = Check.told(Check.with(XC, lines - 1, "line x set c 1;")
                        + "line x mend " + Check.spelled(number) + " by 1;");
                x.begin(0);
                due("all of them", x.run(lines), lines);
                for (int line = 0; line < lines; line++) {
                    due("mend " + number + " of " + lines + ", worn " + line, x.line(line, 4),
                            line == Math.floorMod(number, lines) ? 0 : 1);
                }
            }
        }
    }

    private static void places() {
        CHECK.sentence("FAULTS, kind + 16 * the place (from 0) of a token");
        due("1 at 0", Check.programme(new WornLines(), ";"), 1);
        due("1 at 1", Check.programme(new WornLines(), " ;"), 17);
        due("2 at 6", Check.programme(new WornLines(), "input a 0 1;"), 2 + 16 * 6);
        due("1 at 999", Check.programme(new WornLines(), Check.with("", 999, " ") + ";"), 1 + 16 * 999);
        due("5 at 19", Check.programme(new WornLines(), "cell a 1;input a 0 64;"), 5 + 16 * 19);
        due("blanks count", Check.programme(new WornLines(), "\n\ncell\n\na x"), 1 + 16 * 10);
        WornLines x = new WornLines();
        x.feed(0x0001020304050607L, 0x7f80ff0020000000L, 0x3b00000000000000L);
        due("what is left out does not count", x.programme(), 17);
    }

    private static void theEnd() {
        CHECK.sentence("the end being one at the text's length");
        fault(1, "stuff@");
        fault(1, "stuff @");
        fault(1, "stuff \n \n@");
        fault(1, "stuff a@");
        fault(1, "stuff a bears@");
        fault(1, "stuff a bears 1@");
        fault(1, "stuff a bears 1 costs@");
        fault(1, "stuff a bears 1 costs 1@");
        fault(1, "cell@");
        fault(1, "cell a@");
        fault(1, "cell a 1@");
        fault(1, "cell a 1;input@");
        fault(1, "cell a 1;input a@");
        fault(1, "cell a 1;input a 0@");
        fault(1, "cell a 1;input a 0 1@");
        fault(1, X + "line@");
        fault(1, X + "line x@");
        fault(1, XC + "line x set@");
        fault(1, XC + "line x set c@");
        fault(1, XC + "line x set c 1@");
        fault(1, X + "line x if 1 go 1+@");
        fault(1, X + "line x halt@");
        due("at 1,000", Check.programme(new WornLines(), Check.with("cell a 1", 992, " ")), 1 + 16 * 1000);
    }

    private static void firstWrongToken() {
        CHECK.sentence("of the first token from the left that is wrong the least");
        fault(5, "cell a 1;input a 0 @64;;;#");
        fault(4, "stuff a bears @0 costs 1000;");
        fault(3, "cell a 1;cell @a #;");
        fault(2, XC + "line x write @d + #;");
        fault(1, "cell a 1@#;cell a 1;");
        fault(4, "stuff a bears 1 costs @1000;stuff a bears 0 costs 1;");
        fault(2, "line @a #");
        fault(5, WRITE + "(((((@1");
        fault(1, WRITE + "1 @1 (((((1");
    }

    private static void leastKind() {
        CHECK.sentence("of the first token from the left that is wrong the least");
        // Less than the least, and more than 64 by it: only the first can be, and is told.
        fault(4, "cell a 1;cell b 1;input a 0 63;input b 9999 @0;");
        // A token within 5 others may be wrong by a lesser kind.
        fault(1, WRITE + "(((((@);");
        fault(1, WRITE + "(((((@+1;");
        fault(1, WRITE + "(((((@halt;");
        fault(1, WRITE + "(((((@#;");
        fault(1, WRITE + "(((((@");
        fault(1, WRITE + "(((((@12345");
        fault(2, WRITE + "(((((@d)))));");
        fault(2, WRITE + "not not not not not @x;");
        // Words one too many stand where they may stand.
        String lines = Check.with(X, 16, "line x halt;");
        fault(5, lines + "@line line;");
        fault(1, lines + "@lines x halt;");
        fault(1, Check.with(X, 15, "line x halt;") + "line x halt @line;");
    }

    private static void kindsOneAndTwo() {
        CHECK.sentence("1 it is none, or can't stand there");
        fault(1, "@?");
        fault(1, "@bears");
        fault(1, "@a");
        fault(1, "@7");
        fault(1, "cell a 1 @cell b 1;");
        fault(1, XC + "line x write c @c;");
        fault(1, XC + "line x write c @d;");
        CHECK.sentence("2 a NAME that is no CELL told (in E, behind input, set, keep), no STUFF told (behind line)");
        fault(2, XC + "line x write @x;");
        fault(2, XC + "line x go not @x;");
        fault(2, XC + "input @x 0 1;");
        fault(2, XC + "line x set @x 0;");
        fault(2, XC + "line x call 0 keep @x;");
        fault(2, XC + "line @c halt;");
        fault(2, "line @c halt;");
        // A stuff or cell that is told wrong, or within another text, is none told.
        WornLines x = Check.told("cell a 1;stuff b bears 1 costs 1;");
        due("of another text", Check.programme(x, "input a 0 1;"), 2 + 16 * 6);
        due("of another text", Check.programme(x, "line b halt;"), 2 + 16 * 5);
    }

    private static void kindsThreeAndFour() {
        CHECK.sentence("3 a NAME told already (behind stuff, cell), a CELL that has its input");
        fault(3, XC + "stuff @x bears 1 costs 1;");
        fault(3, XC + "stuff @c bears 1 costs 1;");
        fault(3, XC + "cell @x 1;");
        fault(3, XC + "cell @c 1;");
        fault(3, XC + "input c 0 1;input @c 0 1;");
        fine(XC + "input c 0 1;cell d 1;input d 0 1;");
        CHECK.sentence("4 a NUMBER that is not as told");
        fault(4, "stuff x bears @0 costs 1;");
        fault(4, "stuff x bears 1 costs @1000;");
        fault(4, XC + "input c 1 @0;");
        fine("stuff x bears 1 costs 0;stuff y bears 9999 costs 999;cell c 0;cell d 9999;input c 0 0;input d 9999 9999;");
    }

    private static void kindFive() {
        CHECK.sentence("5 one too many: the words stuff of a fifth, cell of a seventh, input of a third, line of a 17th");
        String four = "stuff a bears 1 costs 1;stuff b bears 1 costs 1;stuff c bears 1 costs 1;stuff d bears 1 costs 1;";
        String six = "cell e 1;cell f 1;cell g 1;cell h 1;cell i 1;cell j 1;";
        String two = "input e 0 1;input f 0 1;";
        String sixteen = Check.with("", 16, "line a halt;");
        fine(four + six + two + sixteen);
        fault(5, four + six + two + sixteen + "@stuff");
        fault(5, four + six + two + sixteen + "@cell");
        fault(5, four + six + two + sixteen + "@input");
        fault(5, four + six + two + sixteen + "@line");
        fault(5, four + "@stuff a bears 1 costs 1;");
        fault(5, six + "@cell e 1;");
        fault(5, six + two + "@input e 0 1;");
        fault(5, four + sixteen + "@line z halt;");
        CHECK.sentence("the greatest number of an input by which there are more than 64 INPUTS");
        fault(5, six + "input e 0 @64;");
        fault(5, six + "input e 0 12;input f 0 @4;");
        fine(six + "input e 0 63;input f 7 7;");
        fault(5, six + "input e 0 63;input f 7 @8;");
        CHECK.sentence("not, worn, or a PART, within 5 others.");
        fault(5, WRITE + "(((((@not 1)))));");
        fault(5, WRITE + "(((((@worn 1)))));");
        fault(5, WRITE + "(((((@1)))));");
        fault(5, WRITE + "(((((@c)))));");
        fault(5, WRITE + "(((((@(1))))));");
    }

    private static void withoutFault() {
        CHECK.sentence("Without a FAULT it is the PROGRAMME from then on, LAID as told (one TWIN each); "
                + "nothing is BEGUN, nothing worn; MARKS stay.");
        String text = XC + "stuff y bears 2 costs 3;input c 1 2;line y write c;line x go 0;";
        WornLines x = Check.told(text);
        x.lay(0, 0, 4);
        x.begin(1);
        x.run(3);
        x.mark(2, false);
        due("the same text again", Check.programme(x, text), 0);
        due("laid as told", x.line(0, 1), 1);
        due("one twin", x.line(0, 2), 1);
        due("bears", x.line(0, 3), 2);
        due("nothing worn", x.line(0, 4), 0);
        due("nothing worn", x.line(1, 4), 0);
        due("nothing begun", x.state(0), 0);
        due("nothing next", x.state(1), NONE);
        due("no step", x.state(2), 0);
        due("nothing written", x.state(3), 0);
        due("no cell", Check.cell(x, 0), Check.THROWS);
        due("nothing written", Check.wrote(x, 0), Check.THROWS);
        due("marks stay", x.mark(2, true) ? 1 : 0, 1);
        due("of the mark", x.line(0, 2), 4);
        due("of the mark", x.state(2), 3);
        due("of the mark", x.line(0, 4), 2);
        due("of the mark", Check.cell(x, 0), 2);
    }
}
