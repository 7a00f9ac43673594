/** Texts with a fault: which one, and its place; and texts that just have none. */
public final class FaultsTest {
    private static final Check CHECK = new Check("FaultsTest");
    private static final String TWO = "figure a;figure b;tribe t skill 0;tribe u skill 0;";

    public static void main(String[] args) {
        tokens();
        lines();
        manyOfASort();
        told();
        numbers();
        names();
        formulas();
        right();
        CHECK.finish();
    }

    private static void fault(int fault, int place, String text) {
        CradleTreaty x = new CradleTreaty();
        CHECK.due("treaty of " + text, -1, Check.treaty(x, text));
        CHECK.due("fault of " + text, fault, x.fault(0));
        CHECK.due("place of " + text, place, x.fault(1));
        CHECK.due("tape behind " + text, 0, x.about(15));
    }

    private static void rightly(int figures, String text) {
        CradleTreaty x = new CradleTreaty();
        CHECK.due("treaty of " + text, figures, Check.treaty(x, text));
        CHECK.due("fault of " + text, 0, x.fault(0));
        CHECK.due("place of " + text, -1, x.fault(1));
    }

    private static void tokens() {
        fault(1, 0, "$");
        fault(1, 6, "figure$");
        fault(1, 7, "figure A;");
        fault(1, 8, "figure f\t;");
        fault(1, 8, "figure f\r;");
        fault(1, 8, "figure f" + (char) 0 + ";");
        fault(1, 8, "figure f" + (char) 233 + ";");
        fault(1, 7, "figure abcdefghi;");
        fault(1, 5, "cord 12345;");
        fault(1, 5, "cord 00001;");
        fault(1, 5, "cord 9a;");
        fault(1, 5, "cord 100a;");
        fault(1, 7, "figure 1a;");
        fault(2, 7, "cord 9 a;");
        fault(2, 5, "cord f$;");
        fault(2, 0, "figuref;");
        fault(2, 7, "cord 1 2;");
    }

    private static void lines() {
        fault(2, 0, ";");
        fault(2, 0, "7");
        fault(2, 0, "abc");
        fault(2, 6, "figure");
        fault(2, 10, "figure  \n ");
        fault(2, 8, "figure a");
        fault(2, 9, "figure a b;");
        fault(2, 7, "figure 7;");
        fault(2, 9, "figure a;;");
        fault(2, 8, "tribe t stiff 1;");
        fault(2, 24, "tribe t skill 1 mirrors stiff 2;");
        fault(2, 24, "tribe t skill 1 mirrors mirrors;");
        fault(2, 21, "tribe t skill 1 stiff;");
        fault(2, TWO.length() + 9, TWO + "move a b hard 1 finger 1;");
        fault(2, TWO.length() + 17, TWO + "move a b finger 1;");
        fault(2, TWO.length() + 25, TWO + "move a b finger 1 hard 1 stiff a;");
        fault(2, TWO.length() + 30, TWO + "move a b finger 1 hard 1 wrong;");
        fault(2, TWO.length() + 9, TWO + "worth t a;");
        fault(2, TWO.length() + 6, TWO + "worth 1 a 1;");
        fault(2, TWO.length() + 8, TWO + "worth t 1 1;");
        for (String word : new String[] {"figure", "tribe", "skill", "stiff", "mirrors", "move",
            "finger", "hard", "wrong", "worth", "slip", "cord", "draw", "or", "and", "not", "worn",
            "wet", "day"}) {
            fault(2, 7, "figure " + word + ";");
            fault(2, 6, "tribe " + word + " skill 1;");
        }
        for (String word : new String[] {"e", "one", "both", "sum", "term", "unit", "line", "treaty"}) {
            rightly(1, "figure " + word + ";tribe " + word + " skill 1;");
        }
    }

    private static void manyOfASort() {
        StringBuilder figures = new StringBuilder();
        for (char name = 'a'; name <= 'h'; name++) {
            figures.append("figure ").append(name).append(';');
        }
        rightly(8, figures.toString());
        fault(2, figures.length() + 1, figures + " figure a;");
        StringBuilder tribes = new StringBuilder();
        for (char name = 'a'; name <= 'e'; name++) {
            tribes.append("tribe ").append(name).append(" skill 9;");
        }
        rightly(0, tribes.toString());
        fault(2, tribes.length(), tribes + "tribe $");
        String moves = TWO + "move a b finger 0 hard 0;".repeat(16);
        rightly(2, moves);
        fault(2, moves.length(), moves + "move z");
        fault(2, 7, "cord 5;cord 0;");
        fault(2, 7, "draw 5;draw 5;");
        fault(2, 7, "slip 5;slip 5;");
    }

    private static void told() {
        fault(3, 16, "figure f;figure f;");
        fault(3, 22, "tribe t skill 1;tribe t skill 1;");
        fault(3, 30, "tribe t skill 1 stiff 1 stiff 1;");
        fault(3, 30, "tribe t skill 1 stiff 1 stiff 01;");
        fault(3, TWO.length() + 20, TWO + "worth t a 0;worth t a 0;");
        fault(4, 22, "tribe t skill 1 stiff 10 stiff 10;");
        StringBuilder stiff = new StringBuilder("tribe t skill 1");
        for (int finger = 9; finger >= 0; finger--) {
            stiff.append(" stiff ").append(finger);
        }
        rightly(0, stiff + ";");
        fault(3, stiff.length() + 7, stiff + " stiff 4;");
        fault(4, stiff.length() + 7, stiff + " stiff 10;");
        fault(2, stiff.length() + 7, stiff + " stiff x;");
        rightly(1, "figure same;tribe same skill 1;worth same same 1;");
    }

    private static void numbers() {
        fault(4, 14, "tribe t skill 10;");
        fault(4, TWO.length() + 16, TWO + "move a b finger 10 hard 1;");
        fault(4, TWO.length() + 23, TWO + "move a b finger 9 hard 10;");
        fault(4, TWO.length() + 10, TWO + "worth t a 100;");
        fault(4, 5, "cord 0;");
        fault(4, 5, "cord 100;");
        fault(4, 5, "draw 1000;");
        rightly(0, "cord 99;draw 999;");
        rightly(0, "cord 0001;draw 0000;");
        rightly(2, TWO + "worth t a 99;worth t b 0;worth u a 0;move b b finger 9 hard 9 wrong b;");
    }

    private static void names() {
        fault(5, 5, "move a b finger 1 hard 1;");
        fault(5, 16, "figure f;move f z finger 1 hard 1;");
        fault(5, TWO.length() + 5, TWO + "move t b finger 1 hard 1;");
        fault(5, TWO.length() + 31, TWO + "move a b finger 1 hard 1 wrong t;");
        fault(5, TWO.length() + 6, TWO + "worth a a 1;");
        fault(5, TWO.length() + 8, TWO + "worth t t 1;");
        fault(5, 6, "worth t f 1;tribe t skill 1;figure f;");
        fault(5, 7, "  move a");
        fault(2, 5, "slip name;");
    }

    private static void formulas() {
        fault(2, 5, "slip ;");
        fault(2, 5, "slip and;");
        fault(2, 7, "slip 1+;");
        fault(2, 7, "slip 1+-1;");
        fault(2, 8, "slip 1<2<3;");
        fault(2, 8, "slip 1=2=3;");
        fault(2, 7, "slip 1 not 2;");
        fault(2, 7, "slip 1+not 2;");
        fault(2, 6, "slip ()");
        fault(2, 7, "slip (1;");
        fault(2, 6, "slip 1);");
        fault(2, 7, "slip 1 2;");
        fault(2, 7, "slip 1 hard;");
        fault(2, 5, "slip finger;");
        fault(2, 6, "slip 1");
        fault(1, 7, "slip 1+&;");
        fault(1, 5, "slip 12345;");
        fault(2, 12, "slip ((((((((1))))))));");
        rightly(0, "slip (((((((1)))))));");
        fault(2, 33, "slip not not not not not not not not 1;");
        rightly(0, "slip not not not not not not not 1;");
        fault(2, 20, "slip not(not(not(not(1))));");
        fault(2, 21, "slip (not(not(not not(1))));");
        rightly(0, "slip not(not(not(not 1)));");
        // What is closed is not within any more.
        rightly(0, "slip " + "(((((((1)))))))+".repeat(3) + "1;");
        rightly(0, "slip " + "not not not not not not not 1 and ".repeat(29) + "1;");
        String units = "1+".repeat(29);
        rightly(0, "slip " + units + "1;");
        fault(2, 65, "slip " + units + "1+1;");
        fault(2, 65, "slip " + units + "1+(1);");
        fault(2, 65, "slip " + units.substring(2) + "(1)+(1);");
        rightly(0, "slip " + units.substring(2) + "(1);");
        fault(2, 64, "slip " + units.substring(2) + "(1+1);");
        fault(1, 65, "slip " + units + "1+$;");
    }

    private static void right() {
        rightly(0, "");
        rightly(0, " \n \n");
        rightly(1, "figure a;");
        rightly(1, "\nfigure\na\n;\n");
        rightly(1, "figure abcdefgh;");
        rightly(1, "figure a;tribe t skill9 stiff0 stiff9 mirrors;move a a finger3 hard4 wrong a;worth t a9;");
        rightly(0, "slip hard*10-skill*5+worn%3<wet/2 or not day=(1)and 2>1;");
        CradleTreaty x = Check.told(" ".repeat(1591) + "figure a;");
        CHECK.due("1,600 bytes", 1, x.about(0));
    }
}
