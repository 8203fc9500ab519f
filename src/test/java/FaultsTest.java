/** The language of promise 3: what is a PROGRAMME, and which FAULT there is where. */
public final class FaultsTest {
    private static final Check CHECK = new Check();
    private static final String X = "stuff x bears 1 costs 1;";
    private static final String XC = X + "cell c 1;";
    private static final String[] RESERVED = {
        "stuff", "bears", "costs", "cell", "input", "line", "set", "write", "go", "if",
        "call", "keep", "mend", "by", "halt", "worn", "not", "and", "or"};

    public static void main(String[] args) {
        tokens();
        kindOne();
        reservedWords();
        kindTwo();
        kindThree();
        kindFour();
        kindFive();
        nesting();
        leastKindOfOneToken();
        allStays();
        CHECK.end();
    }

    private static void fault(int kind, String marked) {
        CHECK.fault(kind, marked);
    }

    private static void fine(String text) {
        CHECK.fine(text);
    }

    private static void tokens() {
        fine("");
        fine(" \n \n");
        fine("stuff a bears 1 costs 0;");
        fine("stuff\na\nbears\n1\ncosts\n0\n;\n");
        fine("stuff a bears1costs0;cell b1;input b0 1;line a if b=1go0;");
        fine("cell abcdefgh 9999;");
        fine("cell a 0001;");
        fault(1, "cell @abcdefghi 1;");
        fault(1, "@abcdefghi");
        fault(1, "@cellcella 1;");
        fault(1, "cell a @12345;");
        fault(1, "cell a @00001;");
        fault(1, "cell a 1@.");
        fault(1, "cell @A 1;");
        fault(1, "cell a@_b 1;");
        fault(1, "@#");
        fault(1, X + "line x write 1 @> 2;");
        fault(1, X + "line x write 6 @/ 2;");
        fault(1, "@~");
    }

    private static void kindOne() {
        fault(1, "@stuf a bears 1 costs 1;");
        fault(1, "@;");
        fault(1, "@1");
        fault(1, "@(");
        fault(1, "@bears 1;");
        fault(1, "stuff@");
        fault(1, "stuff  \n @");
        fault(1, "stuff @1 bears 1 costs 1;");
        fault(1, "stuff a @costs 1 bears 1;");
        fault(1, "stuff a bears @x costs 1;");
        fault(1, "stuff a bears 1 @1;");
        fault(1, "stuff a bears 1 costs @;");
        fault(1, "stuff a bears 1 costs 1@");
        fault(1, "stuff a bears 1 costs 1 \n@");
        fault(1, "stuff a bears 1 costs 1 @stuff");
        fault(1, "cell a 1;@;");
        fault(1, "cell a @;");
        fault(1, "cell a @-1;");
        fault(1, "input @1 1 2;");
        fault(1, "cell a 1;input a @a 2;");
        fault(1, "cell a 1;input a 1 @;");
        fault(1, "line @halt;");
        fault(1, X + "line x @;");
        fault(1, X + "line x @jump;");
        fault(1, X + "line x @x;");
        fault(1, X + "line x @keep;");
        fault(1, X + "line x halt@");
        fault(1, X + "line x halt @1;");
        fault(1, X + "line x set @1 2;");
        fault(1, XC + "line x set c @;");
        fault(1, X + "line x write @;");
        fault(1, X + "line x write @)");
        fault(1, X + "line x write 1 @2;");
        fault(1, X + "line x write 1 @nobody;");
        fault(1, XC + "line x write 1 @c;");
        fault(1, X + "line x write 1@);");
        fault(1, X + "line x write (1@;");
        fault(1, X + "line x write (1@");
        fault(1, X + "line x write (@);");
        fault(1, X + "line x write @-1;");
        fault(1, X + "line x write 1+@*2;");
        fault(1, X + "line x write 1<2@<3;");
        fault(1, X + "line x write 1=2@<3;");
        fault(1, X + "line x write 1<2@=3;");
        fault(1, X + "line x write 1 and @and 2;");
        fault(1, X + "line x write 1 @not 2;");
        fault(1, X + "line x write worn @;");
        fault(1, X + "line x write not @<;");
        fault(1, X + "line x go @go;");
        fault(1, X + "line x if 1 @halt;");
        fault(1, X + "line x if 1 @;");
        fault(1, X + "line x if 1 go @;");
        fault(1, X + "line x if @go 1;");
        fault(1, X + "line x call 1@;");
        fault(1, X + "line x call 1 keep @1;");
        fault(1, XC + "line x call 1 keep c @1;");
        fault(1, X + "line x mend 1@;");
        fault(1, X + "line x mend 1 @go 2;");
        fault(1, X + "line x mend 1 by @;");
        fine(X + "line x write (1<2)<3;");
        fine(X + "line x write 1<2 and 2<3 or 3=4;");
        fine(XC + "line x call c keep c;line x mend c by c;line x if c go c;line x set c c;");
    }

    private static void reservedWords() {
        for (String word : RESERVED) {
            fault(1, "cell @" + word + " 1;");
            fault(1, "stuff @" + word + " bears 1 costs 1;");
            fault(1, "input @" + word + " 1 2;");
            fault(1, "line @" + word + " halt;");
            fault(1, X + "line x set @" + word + " 1;");
            fault(1, X + "line x call 1 keep @" + word + ";");
            if (!word.equals("worn") && !word.equals("not")) {
                fault(1, X + "line x write @" + word + ";");
            }
            fine("cell " + word + "q 1;");
        }
    }

    private static void kindTwo() {
        fault(2, "line @x halt;");
        fault(2, XC + "line @c halt;");
        fault(2, "input @a 1 2;");
        fault(2, X + "input @x 1 2;");
        fault(2, X + "line x set @b 1;");
        fault(2, X + "line x set @x 1;");
        fault(2, X + "line x write @b;");
        fault(2, X + "line x write @x;");
        fault(2, X + "line x write 1+(2*@b);");
        fault(2, X + "line x call 1 keep @x;");
        fault(2, X + "line x call @b keep b;");
        fault(2, X + "line x mend 0 by @b;");
        fault(2, X + "line x if 0 go worn @b;");
        fault(2, X + "line x write @c;cell c 1;");
        fault(2, "line @x halt;" + X);
    }

    private static void kindThree() {
        fault(3, X + "stuff @x bears 1 costs 1;");
        fault(3, X + "cell @x 1;");
        fault(3, "cell a 1;stuff @a bears 1 costs 1;");
        fault(3, "cell a 1;cell @a 2;");
        fault(3, "cell a 1;cell b 1;input a 0 1;input @a 0 1;");
    }

    private static void kindFour() {
        fault(4, "stuff a bears @0 costs 1;");
        fault(4, "stuff a bears 1 costs @1000;");
        fault(4, "stuff a bears 9999 costs @9999;");
        fault(4, "cell a 1;input a 5 @4;");
        fault(4, "cell a 1;input a 9999 @0;");
        fine("stuff a bears 9999 costs 999;");
        fine("cell a 1;input a 9999 9999;");
        fine("cell a 1;input a 0 0;");
    }

    private static void kindFive() {
        String stuffs = "stuff a bears 1 costs 1;stuff b bears 1 costs 1;"
                + "stuff c bears 1 costs 1;stuff d bears 1 costs 1;";
        fine(stuffs);
        fault(5, stuffs + "@stuff");
        fault(5, stuffs + "@stuff a");
        String cells = "cell e 1;cell f 1;cell g 1;cell h 1;cell i 1;cell j 1;";
        fine(stuffs + cells);
        fault(5, cells + "@cell e 1;");
        String inputs = cells + "input e 0 7;input f 1 8;";
        fine(inputs);
        fault(5, inputs + "@input g 0 0;");
        fault(5, "cell a 1;input a 0 @64;");
        fine("cell a 1;input a 0 63;");
        fine("cell a 1;input a 9936 9999;");
        fault(5, "cell a 1;input a 0 @9999;");
        fault(5, cells + "input e 0 7;input f 0 @8;");
        fault(5, cells + "input e 0 32;input f 0 @1;");
        fine(cells + "input e 0 31;input f 0 1;");
        fine(cells + "input e 0 63;input f 3 3;");
        StringBuilder lines = new StringBuilder(X);
        for (int i = 0; i < 16; i++) {
            lines.append("line x halt;");
        }
        fine(lines.toString());
        fault(5, lines + "@line");
        fault(5, lines + "@line y halt;");
    }

    private static void nesting() {
        fine(X + "line x write ((((1))))+((((2))))*((((3))));");
        fine(X + "line x write not not not not 1;");
        fine(X + "line x write worn not(worn 1);");
        fine(XC + "line x if worn(not(c))go((((c))));");
        fault(5, X + "line x write (((((@1)))));");
        fault(5, XC + "line x write (((((@c)))));");
        fault(5, X + "line x write (((((@(1))))));");
        fault(5, X + "line x write (((((@not 1)))));");
        fault(5, X + "line x write (((((@worn 1)))));");
        fault(5, X + "line x write not not not not not @1;");
        fault(5, X + "line x write worn worn worn worn worn @worn 1;");
        fault(5, X + "line x write worn not(worn(@1));");
        fault(5, X + "line x if 1 go ((((1+(@2*3)))));");
        fault(5, X + "line x if (((((@1))))) go 1;");
    }

    private static void leastKindOfOneToken() {
        fault(1, X + "line x write (((((@)))))");
        fault(1, X + "line x write (((((@halt)))))");
        fault(1, X + "line x write (((((@#");
        fault(1, X + "line x write (((((@");
        fault(2, X + "line x write (((((@zz)))))");
        fault(2, X + "line x write (((((@x)))))");
        fault(4, "cell a 1;cell b 1;input a 0 63;input b 9 @8;");
        // The first wrong token counts, whatever comes behind it.
        fault(4, "stuff a bears @0 costs #;");
        fault(2, X + "line @y write (((((1;");
    }

    private static void allStays() {
        WornLines x = Check.told(XC + "input c 3 5;line x set c c+1;line x write c;");
        x.begin(1);
        x.run(1);
        CHECK.due("fault", Check.programme(x, X + "line x halt;line x write @;"), 1 + 16L * 49);
        CHECK.due("count(4)", x.count(4), 0);
        CHECK.due("count(3)", x.count(3), 2);
        CHECK.due("inputs()", x.inputs(), 3);
        CHECK.due("line(0, 0)", x.line(0, 0), 0);
        CHECK.due("line(0, 4)", x.line(0, 4), 1);
        CHECK.due("state(0)", x.state(0), 1);
        CHECK.due("cell(0)", Check.cell(x, 0), 5);
        CHECK.due("run(9)", x.run(9), 1);
        CHECK.due("wrote(0)", Check.wrote(x, 0), 5);
        // What was told on the faulty TAPE has left nothing behind.
        CHECK.due("fault", Check.programme(x, "cell q 1;cell r 1;@"), 1 + 16L * 18);
        CHECK.due("fine", Check.programme(x, "cell q 1;"), 0);
        CHECK.due("fault", Check.programme(x, X + "line x write q;"), 2 + 16L * 37);
    }
}
