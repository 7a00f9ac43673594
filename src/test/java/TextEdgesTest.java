/** The edges that the document names of the text: its terms 1 and the promises 1 to 5. */
public final class TextEdgesTest {
    private static final Sentences DOC = new Sentences("TextEdgesTest");
    private static final String TERMS = "Terms 1";
    private static final String SIGNS = ";()<>=+-*/%";
    private static final String TWO = "figure a;figure b;tribe u skill 0;tribe v skill 0;";
    // Right as a whole, with a blank between any two tokens.
    private static final String LINES = "figure a ; figure b ; tribe u skill 0 stiff 1 stiff 2 mirrors ; "
            + "tribe v skill 9 ; move a b finger 1 hard 2 wrong a ; move b b finger 0 hard 0 ; "
            + "worth u a 9 ; slip not ( hard + 1 ) * 2 < skill - 3 or day % 2 = wet / 2 and worn > 1 ; "
            + "cord 5 ; draw 7 ;";
    private static final String[] OWN_WORDS = {"figure", "tribe", "skill", "stiff", "mirrors", "move",
        "finger", "hard", "wrong", "worth", "slip", "cord", "draw", "or", "and", "not", "worn", "wet",
        "day"};
    private static final int[] WRONG_NUMBERS = {Integer.MIN_VALUE, Integer.MIN_VALUE + 1, -100, -2, -1,
        2, 32, 64, 100, Integer.MAX_VALUE};

    public static void main(String[] args) {
        texts();
        linesOfATreaty();
        partsOfAFormula();
        bytesByThemselves();
        bytesBehindOthers();
        longTokens();
        names();
        figuresAndTribes();
        moves();
        worths();
        onceEach();
        units();
        within();
        faultsByPlace();
        faultsByNumber();
        newObject();
        feed();
        end();
        treaty();
        fault();
        DOC.tested(Sentences.partsOf(1, 1, 5));
        DOC.finish();
    }

    private static void says(String part, String words) {
        DOC.says(part, words);
    }

    private static void due(String call, long want, long got) {
        DOC.due(call, want, got);
    }

    private static void texts() {
        says(TERMS, "A TREATY is a text of at most 1,600 bytes");
        DOC.right(1, " ".repeat(1591) + "figure a;");
        DOC.fault(1, 1599, " ".repeat(1599) + "$");
        DOC.fault(2, 1600, " ".repeat(1594) + "figure");
        says(TERMS, "(empty at first)");
        CradleTreaty x = new CradleTreaty();
        due("bytes", 0, x.about(15));
        due("figures", 0, x.about(0));
        due("treaty of nothing fed", 0, x.treaty());
    }

    private static void linesOfATreaty() {
        says(TERMS, "treaty = {line}.");
        DOC.right(0, "");
        DOC.right(0, " \n \n\n");
        DOC.right(0, "draw 1;");
        DOC.fault(2, 0, ";");
        DOC.fault(2, 7, "draw 1;;");
        DOC.right(2, LINES);
        says(TERMS, "line = figure NAME ;  |  tribe NAME skill N {stiff N} [mirrors] ;  |  "
                + "move NAME NAME finger N hard N [wrong NAME] ;  |  worth NAME NAME N ;  |  slip e ;  |  "
                + "cord N ;  |  draw N ;.");
        String[] tokens = LINES.split(" ");
        for (int i = 0; i < tokens.length; i++) {
            leaveOut(tokens, i);
        }
        says(TERMS, "{stiff N} [mirrors]");
        DOC.right(0, "tribe t skill 0;");
        DOC.right(0, "tribe t skill 0 mirrors;");
        DOC.right(0, "tribe t skill 0 stiff 3;");
        DOC.right(0, "tribe t skill 0 stiff 3 stiff 4 mirrors;");
        DOC.fault(2, 21, "tribe t skill 0 stiff;");
        DOC.fault(2, 24, "tribe t skill 0 mirrors mirrors;");
        DOC.fault(2, 24, "tribe t skill 0 mirrors stiff 3;");
        says(TERMS, "[wrong NAME]");
        CradleTreaty x = Check.told(TWO + "move a b finger 0 hard 0;move a b finger 0 hard 0 wrong b;");
        due("none", -1, x.move(0, 4));
        due("one", 1, x.move(1, 4));
        DOC.fault(2, TWO.length() + 30, TWO + "move a b finger 0 hard 0 wrong;");
        DOC.fault(2, TWO.length() + 33, TWO + "move a b finger 0 hard 0 wrong a wrong b;");
    }

    /** Without one token of all the next one can't stand there, but where the line is right still. */
    private static void leaveOut(String[] tokens, int out) {
        String mayBeLeftOut = " mirrors not ";
        boolean mayBe = mayBeLeftOut.contains(" " + tokens[out] + " ");
        StringBuilder text = new StringBuilder();
        int place = 0;
        for (int i = 0; i < tokens.length; i++) {
            if (i == out) {
                place = text.length();
            } else {
                text.append(tokens[i]).append(' ');
            }
        }
        CradleTreaty x = new CradleTreaty();
        due("treaty of " + text, mayBe ? 2 : -1, Check.treaty(x, text.toString()));
        if (tokens[out].equals(";") && out < tokens.length - 1) {
            due("fault without ; in " + text, 2, x.fault(0));
            due("place without ; in " + text, place, x.fault(1));
        }
    }

    private static void partsOfAFormula() {
        says(TERMS, "e = both {or both}.");
        DOC.fault(2, 5, "slip ;");
        DOC.fault(2, 5, "slip or 1;");
        DOC.fault(2, 9, "slip 1 or;");
        DOC.fault(2, 10, "slip 1 or or 1;");
        says(TERMS, "both = one {and one}.");
        DOC.fault(2, 5, "slip and 1;");
        DOC.fault(2, 10, "slip 1 and;");
        DOC.fault(2, 11, "slip 1 and or 1;");
        says(TERMS, "one = not one | sum [(< | > | =) sum].");
        DOC.fault(2, 8, "slip not;");
        DOC.fault(2, 7, "slip 1 not 1;");
        DOC.fault(2, 7, "slip 1<not 1;");
        DOC.fault(2, 7, "slip 1+not 1;");
        for (char first : new char[] {'<', '>', '='}) {
            DOC.right(0, "slip 1" + first + "2;");
            DOC.fault(2, 7, "slip 1" + first + ";");
            for (char second : new char[] {'<', '>', '='}) {
                DOC.fault(2, 7, "slip 1" + first + second + "2;");
                DOC.fault(2, 8, "slip 1" + first + "2" + second + "3;");
                DOC.right(0, "slip (1" + first + "2)" + second + "3;");
            }
        }
        says(TERMS, "sum = term {(+ | -) term}.");
        DOC.fault(2, 5, "slip -1;");
        DOC.fault(2, 7, "slip 1+;");
        DOC.fault(2, 7, "slip 1--1;");
        says(TERMS, "term = unit {(* | / | %) unit}.");
        DOC.fault(2, 5, "slip *1;");
        DOC.fault(2, 7, "slip 1/;");
        DOC.fault(2, 7, "slip 1*%1;");
        says(TERMS, "unit = N | hard | skill | worn | wet | day | ( e ).");
        for (String word : OWN_WORDS) {
            String among = " hard skill worn wet day ";
            if (among.contains(" " + word + " ")) {
                DOC.right(0, "slip " + word + ";");
            } else {
                DOC.fault(2, word.equals("not") ? 8 : 5, "slip " + word + ";");
            }
        }
        DOC.fault(2, 5, "slip name;");
        DOC.fault(2, 6, "slip ();");
        DOC.fault(2, 7, "slip (1;");
        DOC.fault(2, 6, "slip 1);");
        DOC.fault(2, 6, "slip 1(2);");
        DOC.fault(2, 7, "slip 1 2;");
        DOC.fault(2, 8, "slip (1)(2);");
    }

    private static boolean isLetter(int sign) {
        return sign >= 'a' && sign <= 'z';
    }

    private static boolean isDigit(int sign) {
        return sign >= '0' && sign <= '9';
    }

    private static boolean isSign(int sign) {
        return SIGNS.indexOf(sign) >= 0;
    }

    private static void bytesByThemselves() {
        says(TERMS, "blanks (32, 10)");
        DOC.right(0, " ");
        DOC.right(0, "\n");
        for (int sign : new int[] {0, 9, 11, 12, 13, 31, 33, 127, 133, 160, 255}) {
            DOC.fault(1, 0, "" + (char) sign);
        }
        says(TERMS, "signs ; ( ) < > = + - * / %;");
        for (int sign = 0; sign < 256; sign++) {
            if (sign != 32 && sign != 10) {
                boolean stands = isLetter(sign) || isDigit(sign) || isSign(sign);
                DOC.fault(stands ? 2 : 1, 0, "" + (char) sign);
            }
        }
    }

    private static void bytesBehindOthers() {
        says(TERMS, "words (a .. z");
        for (int sign = 0; sign < 256; sign++) {
            String text = "figure a" + (char) sign + ";";
            if (isLetter(sign) || sign == 32 || sign == 10) {
                DOC.right(1, text);
            } else if (sign == ';') {
                DOC.fault(2, 9, text);
            } else {
                DOC.fault(isDigit(sign) || isSign(sign) ? 2 : 1, 8, text);
            }
        }
        says(TERMS, "no letter directly behind an N.");
        for (int sign = 0; sign < 256; sign++) {
            String text = "draw 1" + (char) sign + ";";
            if (isDigit(sign) || sign == 32 || sign == 10) {
                DOC.right(0, text);
            } else if (sign == ';') {
                DOC.fault(2, 7, text);
            } else if (isLetter(sign)) {
                DOC.fault(1, 5, text);
            } else {
                DOC.fault(isSign(sign) ? 2 : 1, 6, text);
            }
        }
        DOC.fault(2, 7, "draw 1 a;");
        DOC.fault(2, 7, "draw 1\nskill;");
        DOC.fault(1, 14, "tribe t skill 1stiff 2;");
        DOC.fault(1, 5, "draw 1000a;");
        says(TERMS, "part them or not;");
        DOC.right(1, "figure a;tribe t skill9 stiff0 stiff9 mirrors;move a a finger3 hard4 wrong a;worth t a9;");
        DOC.right(2, LINES.replace(" ", "\n"));
        DOC.right(2, LINES.replace(" ", " \n "));
        DOC.right(0, "slip 1+2*(3-4)<5;");
        DOC.right(0, "slip 1 + 2 * ( 3 - 4 ) < 5 ;");
    }

    private static void longTokens() {
        says(TERMS, "8 at most)");
        DOC.right(1, "figure abcdefgh;");
        DOC.fault(1, 7, "figure abcdefghi;");
        DOC.fault(1, 9, "figure a;abcdefghi;");
        DOC.fault(1, 0, "figurefigure a;");
        DOC.fault(1, 7, "figure " + "a".repeat(1500) + ";");
        // The last eight letters of each are a word that could stand there.
        DOC.fault(1, 0, "abcdefghijfigure a;");
        DOC.fault(1, 23, "figure ijklmnop;figure abcdefghijklmnop;");
        DOC.fault(1, 21, "figure ijklmnop;move abcdefghijklmnop ijklmnop finger 1 hard 1;");
        says(TERMS, "N (1 to 4 digits)");
        due("one", 7, Check.told("draw 7;").about(10));
        due("four", 7, Check.told("draw 0007;").about(10));
        due("four", 999, Check.told("draw 0999;").about(10));
        DOC.fault(1, 5, "draw 00007;");
        DOC.fault(1, 5, "draw 10000;");
        DOC.fault(1, 5, "draw 4294967296;");
        DOC.fault(1, 5, "draw " + "0".repeat(1500) + ";");
        DOC.fault(1, 5, "slip 12345;");
        DOC.fault(1, 7, "figure 12345;");
        says(TERMS, "each is as long as can be;");
        DOC.fault(2, 0, "figurea;");
        DOC.fault(2, 8, "tribe t skills 9;");
        due("12, not 1 and 2", 12, Check.told("draw 12;").about(10));
        DOC.fault(2, 7, "draw 1 2;");
        DOC.fault(2, 7, "slip 1 notnot 2;");
    }

    private static void names() {
        says(TERMS, "Words that stand for themselves here are no NAMES.");
        for (String word : OWN_WORDS) {
            DOC.fault(2, 7, "figure " + word + ";");
            DOC.fault(2, 6, "tribe " + word + " skill 1;");
            DOC.fault(2, TWO.length() + 5, TWO + "move " + word + " b finger 1 hard 1;");
            DOC.fault(2, TWO.length() + 7, TWO + "move a " + word + " finger 1 hard 1;");
            DOC.fault(2, TWO.length() + 31, TWO + "move a b finger 1 hard 1 wrong " + word + ";");
            DOC.fault(2, TWO.length() + 6, TWO + "worth " + word + " a 1;");
            DOC.fault(2, TWO.length() + 8, TWO + "worth u " + word + " 1;");
            DOC.right(1, "figure " + word + "s;");
            DOC.right(1, "figure " + word.substring(1) + ";");
        }
        for (String word : new String[] {"treaty", "line", "e", "both", "one", "sum", "term", "unit"}) {
            DOC.right(1, "figure " + word + ";tribe " + word + " skill 1;");
        }
    }

    private static String figures(int n) {
        StringBuilder text = new StringBuilder();
        for (int i = 0; i < n; i++) {
            text.append("figure ").append((char) ('a' + i)).append(';');
        }
        return text.toString();
    }

    private static String tribes(int n) {
        StringBuilder text = new StringBuilder();
        for (int i = 0; i < n; i++) {
            text.append("tribe ").append((char) ('a' + i)).append(" skill 0;");
        }
        return text.toString();
    }

    private static void figuresAndTribes() {
        says(TERMS, "At most 8 FIGURES");
        for (int n = 0; n <= 8; n++) {
            DOC.right(n, figures(n));
        }
        DOC.fault(2, 72, figures(9));
        says(TERMS, "5 TRIBES");
        for (int n = 0; n <= 5; n++) {
            due("tribes", n, Check.told(tribes(n)).about(1));
        }
        DOC.fault(2, 80, tribes(6));
        says(TERMS, "(skill 0 .. 9;");
        for (int skill = 0; skill <= 9; skill++) {
            due("skill", skill, Check.told("tribe t skill " + skill + ";").tribe(0, 0));
        }
        DOC.fault(4, 14, "tribe t skill 10;");
        DOC.fault(4, 14, "tribe t skill 9999;");
        says(TERMS, "stiff fingers 0 .. 9, each once)");
        StringBuilder text = new StringBuilder("tribe t skill 0");
        for (int finger = 9; finger >= 0; finger--) {
            due("stiff", 1 << finger, Check.told("tribe t skill 0 stiff " + finger + ";").tribe(0, 1));
            DOC.fault(3, 30, "tribe t skill 0 stiff " + finger + " stiff " + finger + ";");
            text.append(" stiff ").append(finger);
        }
        due("all ten", 1023, Check.told(text + ";").tribe(0, 1));
        due("none", 0, Check.told("tribe t skill 0;").tribe(0, 1));
        due("each tribe by itself", 8, Check.told("tribe t skill 0 stiff 3;tribe u skill 0 stiff 3;").tribe(1, 1));
        DOC.fault(4, 22, "tribe t skill 0 stiff 10;");
        DOC.fault(4, 22, "tribe t skill 0 stiff 32 stiff 0;");
        DOC.fault(3, text.length() + 7, text + " stiff 0;");
        DOC.fault(4, text.length() + 7, text + " stiff 10;");
        DOC.fault(2, text.length() + 6, text + " stiff;");
    }

    private static void moves() {
        says(TERMS, "16 MOVES");
        String move = "move a b finger 0 hard 0;";
        due("none", 0, Check.told(TWO).about(2));
        due("sixteen", 16, Check.told(TWO + move.repeat(16)).about(2));
        DOC.fault(2, TWO.length() + 400, TWO + move.repeat(17));
        says(TERMS, "(from a FIGURE to a FIGURE, unlike or not,");
        CradleTreaty x = Check.told(TWO + "move b a finger 0 hard 0;move b b finger 0 hard 0;");
        due("from", 1, x.move(0, 0));
        due("to another", 0, x.move(0, 1));
        due("to the same", 1, x.move(1, 1));
        says(TERMS, "by a finger 0 .. 9,");
        for (int finger = 0; finger <= 9; finger++) {
            due("finger", finger, Check.told(TWO + "move a b finger " + finger + " hard 0;").move(0, 2));
        }
        DOC.fault(4, TWO.length() + 16, TWO + "move a b finger 10 hard 0;");
        says(TERMS, "hard 0 .. 9,");
        for (int hard = 0; hard <= 9; hard++) {
            due("hard", hard, Check.told(TWO + "move a b finger 0 hard " + hard + ";").move(0, 3));
        }
        DOC.fault(4, TWO.length() + 23, TWO + "move a b finger 0 hard 10;");
        says(TERMS, "a wrong FIGURE; all told ahead)");
        DOC.fault(5, 5, "move a a finger 0 hard 0;figure a;");
        DOC.fault(5, TWO.length() + 5, TWO + "move c a finger 0 hard 0;figure c;");
        DOC.fault(5, TWO.length() + 7, TWO + "move a c finger 0 hard 0;figure c;");
        DOC.fault(5, TWO.length() + 31, TWO + "move a a finger 0 hard 0 wrong c;figure c;");
        says(TERMS, "numbered as told, each sort by itself;");
        x = Check.told("tribe a skill 1;figure b;tribe b skill 2;figure a;move a b finger 3 hard 4 wrong a;"
                + "figure c;move c a finger 5 hard 6;worth b a 7;");
        due("a is the second figure", 1, x.move(0, 0));
        due("b is the first figure", 0, x.move(0, 1));
        due("wrong", 1, x.move(0, 4));
        due("c is the third figure", 2, x.move(1, 0));
        due("b is the second tribe", 7, x.worth(1, 1));
        due("skill", 2, x.tribe(1, 0));
        due("figures", 3, x.about(0));
        due("tribes", 2, x.about(1));
        due("moves", 2, x.about(2));
    }

    private static void worths() {
        says(TERMS, "worth (to a TRIBE, of a FIGURE, both told ahead, each once;");
        DOC.fault(5, 15, "figure a;worth u a 1;tribe u skill 0;");
        DOC.fault(5, 24, "tribe u skill 0;worth u a 1;figure a;");
        DOC.fault(3, TWO.length() + 20, TWO + "worth u a 1;worth u a 2;");
        DOC.fault(3, TWO.length() + 20, TWO + "worth u a 0;worth u a 0;");
        DOC.right(2, TWO + "worth u a 1;worth u b 1;worth v a 1;worth v b 1;");
        StringBuilder text = new StringBuilder(figures(8) + tribes(5));
        for (char tribe = 'a'; tribe <= 'e'; tribe++) {
            for (char figure = 'a'; figure <= 'h'; figure++) {
                text.append("worth ").append(tribe).append(' ').append(figure).append(" 3;");
            }
        }
        DOC.right(8, text.toString());
        DOC.fault(3, text.length() + 8, text + "worth e h 3;");
        says(TERMS, "0 .. 99; 0 if not told)");
        CradleTreaty x = Check.told(TWO + "worth u a 99;worth u b 0;");
        due("most", 99, x.worth(0, 0));
        due("least", 0, x.worth(0, 1));
        due("not told", 0, x.worth(1, 0));
        DOC.fault(4, TWO.length() + 10, TWO + "worth u a 100;");
    }

    private static int nightsOf(String text) {
        CradleTreaty x = Check.told(text);
        int nights = 0;
        while (x.about(8) == 0 && nights < 120) {
            x.night();
            nights++;
        }
        return nights;
    }

    private static void onceEach() {
        says(TERMS, "cord (1 .. 99; 9)");
        due("not told", 9, nightsOf("figure a;"));
        due("1", 1, nightsOf("cord 1;"));
        due("99", 99, nightsOf("cord 99;"));
        DOC.fault(4, 5, "cord 0;");
        DOC.fault(4, 5, "cord 100;");
        says(TERMS, "draw (0 .. 999; 0)");
        due("not told", 0, Check.told("").about(10));
        due("0", 0, Check.told("draw 0;").about(10));
        due("999", 999, Check.told("draw 999;").about(10));
        DOC.fault(4, 5, "draw 1000;");
        says(TERMS, "once each;");
        DOC.right(0, "draw 0;cord 9;slip 0;");
        DOC.fault(2, 7, "slip 0;slip 0;");
        DOC.fault(2, 7, "cord 9;cord 9;");
        DOC.fault(2, 7, "draw 0;draw 0;");
        DOC.fault(2, 21, "slip 0;cord 9;draw 0;cord 9;");
        CradleTreaty x = Check.told("draw 0;cord 9;slip 0;");
        due("in another treaty again", 0, Check.treaty(x, "draw 0;cord 9;slip 0;"));
        due("behind a fault", -1, Check.treaty(x, "draw 0;cord 9;slip 0;$"));
        due("again", 0, Check.treaty(x, "draw 0;cord 9;slip 0;"));
    }

    private static void units() {
        says(TERMS, "30 in one e");
        String most = "1+".repeat(29) + "1";
        due("units", 30, Check.told("slip " + most + ";").about(16));
        due("units", 1, Check.told("slip 1;").about(16));
        DOC.fault(2, 65, "slip " + most + "+1;");
        DOC.fault(2, 65, "slip " + most + "*day;");
        DOC.fault(2, 68, "slip " + most + " or 1;");
        DOC.fault(2, 69, "slip " + most + " and 1;");
        DOC.fault(2, 65, "slip " + most + "<1;");
        due("brackets are one", 30, Check.told("slip " + "1+".repeat(28) + "(1);").about(16));
        DOC.fault(2, 64, "slip " + "1+".repeat(28) + "(1+1);");
        DOC.fault(2, 65, "slip " + "1+".repeat(29) + "1+(1);");
        for (String sign : new String[] {" or ", " and ", "*", "/", "%", "-"}) {
            String thirty = "slip 1" + (sign + "1").repeat(29);
            due("units by" + sign, 30, Check.told(thirty + ";").about(16));
            DOC.fault(2, thirty.length() + sign.length(), thirty + sign + "1;");
        }
        due("words are units", 5, Check.told("slip hard+skill*worn-wet or day;").about(16));
        says(TERMS, "60 units in all");
        // There is one slip, so that its 30 are the most in all.
        due("units", 30, Check.told("slip " + most + ";").about(16));
        DOC.fault(2, 65, "slip " + most + ";slip 1;");
        CradleTreaty x = new CradleTreaty();
        for (int i = 0; i < 3; i++) {
            due("of each treaty by itself", 0, Check.treaty(x, "slip " + most + ";"));
        }
        due("units", 30, x.about(16));
    }

    private static String opened(int depth, int nots) {
        StringBuilder text = new StringBuilder("slip ");
        for (int i = 0; i < depth; i++) {
            text.append((nots >> i & 1) != 0 ? "not " : "(");
        }
        return text.toString();
    }

    private static String closed(int depth, int nots) {
        return ")".repeat(depth - Integer.bitCount(nots)) + ";";
    }

    private static void within() {
        says(TERMS, "(a unit ( e ), or a one behind not, within 6 others at most)");
        for (int nots = 0; nots < 128; nots++) {
            DOC.right(0, opened(7, nots) + "1" + closed(7, nots));
            int place = opened(7, nots).length();
            DOC.fault(2, place, opened(8, nots) + "1" + closed(8, nots));
            DOC.fault(2, place, opened(8, nots | 128) + "1" + closed(8, nots | 128));
        }
        // What is closed is not within any more; what follows in the sum behind not is.
        DOC.right(0, "slip (((((((1)))))))+(((((((1)))))));");
        DOC.right(0, "slip not not not not not not not 1 and not not not not not not not 1;");
        DOC.right(0, "slip not 1 and (((((((1)))))));");
        DOC.right(0, "slip not 1 or (((((((1)))))));");
        DOC.right(0, "slip not 1+((((((1))))));");
        DOC.fault(2, 17, "slip not 1+(((((((1)))))));");
        DOC.right(0, "slip not 1<((((((1))))));");
        DOC.fault(2, 17, "slip not 1<(((((((1)))))));");
        // A fault within others leaves nothing of them for the next text.
        CradleTreaty x = new CradleTreaty();
        due("faulty within seven", -1, Check.treaty(x, "slip (((((not not $"));
        due("seven", 0, Check.treaty(x, "slip (((((((1)))))));"));
        DOC.fault(2, 16, "slip (((((1)+((((1))))))));");
    }

    private static void faultsByPlace() {
        says(TERMS, "FAULTS, the first by its place");
        DOC.fault(3, 16, "figure f;figure f$");
        DOC.fault(4, 5, "cord 0 $;");
        DOC.fault(2, 7, "cord 1 cord 0;");
        DOC.fault(5, 5, "move z finger 99 hard 99;");
        DOC.fault(1, 1, " $cord 0;cord 0;");
        says(TERMS, "(bytes from 0; the end: the text's length)");
        String[] tokens = LINES.split(" ");
        StringBuilder text = new StringBuilder();
        for (String token : tokens) {
            text.append(token);
            if (!token.equals(";")) {
                DOC.fault(2, text.length(), text.toString());
                DOC.fault(2, text.length() + 2, text + " \n");
            }
            text.append(' ');
        }
        says(TERMS, "at one place the least:");
        DOC.fault(1, 16, "figure f;figure fffffffff;");
        DOC.fault(1, 5, "cord 12345;");
        DOC.fault(1, 7, "figure 12345;");
        DOC.fault(1, 5, "move zzzzzzzzz;");
        DOC.fault(1, 65, "slip " + "1+".repeat(30) + "$;");
        DOC.fault(2, 65, "slip " + "1+".repeat(30) + ";");
    }

    private static void faultsByNumber() {
        says(TERMS, "1 no TOKEN;");
        replaceEach("]", 1);
        replaceEach("abcdefghi", 1);
        replaceEach("12345", 1);
        replaceEach("1a", 1);
        says(TERMS, "2 one that can't stand there");
        replaceEach("figure", 2);
        says(TERMS, "(one of a sort too many or a second time: at the line's first word;");
        DOC.fault(2, figures(8).length() + 2, figures(8) + "\n figure a;");
        DOC.fault(2, figures(8).length(), figures(8) + "figure $");
        DOC.fault(2, tribes(5).length(), tribes(5) + "tribe a skill 10;");
        String moves = TWO + "move a b finger 0 hard 0;".repeat(16);
        DOC.fault(2, moves.length(), moves + "move z z finger 10 hard 0;");
        DOC.fault(2, 9, "cord 1;\n cord 0;");
        DOC.fault(2, 7, "draw 1;draw 1000;");
        DOC.fault(2, 7, "slip 1;slip $;");
        says(TERMS, "a unit too many, what is within 7 others: at its first TOKEN, or the not)");
        String most = "slip " + "1+".repeat(29) + "1";
        DOC.fault(2, 69, most + " and (1);");
        DOC.fault(2, 72, most + " and not(1);");
        DOC.fault(2, 12, "slip ((((((((1))))))));");
        DOC.fault(2, 13, "slip ((((((( not 1)))))));");
        DOC.fault(2, 34, "slip not not not not not not not  not 1;");
        DOC.fault(2, 33, "slip not not not not not not not (1);");
        says(TERMS, "3 a NAME told already (of its sort),");
        DOC.fault(3, 16, "figure f;figure f;");
        DOC.fault(3, 22, "tribe t skill 1;tribe t skill 1;");
        DOC.fault(3, 25, "figure f;figure g;figure f;");
        DOC.right(1, "figure f;tribe f skill 1;");
        DOC.right(2, "figure f;figure ff;tribe fff skill 1;tribe f skill 1;");
        says(TERMS, "a finger stiff a second time,");
        DOC.fault(3, 30, "tribe t skill 1 stiff 1 stiff 1;");
        DOC.fault(3, 38, "tribe t skill 1 stiff 1 stiff 9 stiff 0001;");
        says(TERMS, "a worth told already (at the second NAME);");
        DOC.fault(3, TWO.length() + 20, TWO + "worth u a 1;worth u a 100;");
        DOC.fault(3, TWO.length() + 32, TWO + "worth u a 1;worth v a 1;worth u a 1;");
        says(TERMS, "4 a number that can't be;");
        DOC.fault(4, 14, "tribe t skill 10 stiff 10;");
        DOC.fault(4, 22, "tribe t skill 9 stiff 10;");
        DOC.fault(4, TWO.length() + 16, TWO + "move a a finger 10 hard 10;");
        DOC.fault(4, TWO.length() + 23, TWO + "move a a finger 9 hard 10;");
        DOC.fault(4, TWO.length() + 10, TWO + "worth u a 100;");
        DOC.fault(4, 5, "cord 0;");
        DOC.fault(4, 5, "cord 0000;");
        DOC.fault(4, 5, "cord 100;");
        DOC.fault(4, 5, "draw 1000;");
        DOC.right(0, "slip 9999;");
        says(TERMS, "5 a NAME that nothing of the sort has.");
        DOC.fault(5, TWO.length() + 5, TWO + "move u a finger 0 hard 0;");
        DOC.fault(5, TWO.length() + 7, TWO + "move a u finger 0 hard 0;");
        DOC.fault(5, TWO.length() + 31, TWO + "move a a finger 0 hard 0 wrong u;");
        DOC.fault(5, TWO.length() + 6, TWO + "worth a a 1;");
        DOC.fault(5, TWO.length() + 8, TWO + "worth u u 1;");
    }

    /** Each token in the place of each, but where a line may begin. */
    private static void replaceEach(String by, int fault) {
        String[] tokens = LINES.split(" ");
        StringBuilder text = new StringBuilder();
        for (int i = 0; i < tokens.length; i++) {
            boolean begins = i == 0 || tokens[i - 1].equals(";");
            if (!begins || fault == 1) {
                DOC.fault(fault, text.length(), text + by + LINES.substring(text.length() + tokens[i].length()));
            }
            text.append(tokens[i]).append(' ');
        }
    }

    private static void newObject() {
        says("Terms 4", "`NONE = -1`: There is none.");
        due("NONE", -1, CradleTreaty.NONE);
        says("Promise 1", "An empty TREATY.");
        int[] want = {0, 0, 0, -1, -1, 0, 0, 0, 0, 0, 0, 0, 0, 0, 0, 0, 0, 0};
        CradleTreaty x = new CradleTreaty();
        for (int what = 0; what < want.length; what++) {
            due("about " + what, want[what], x.about(what));
        }
        for (int what = 0; what < 7; what++) {
            due("tribe", -1, x.tribe(0, what));
            due("move", -2, x.move(0, what));
        }
        due("worth", -1, x.worth(0, 0));
        due("slip", -1, x.slip(0, 0));
        due("take", -1, x.take(0, 0));
        due("give", -1, x.give(0));
        DOC.due("undo", false, x.undo());
        DOC.due("redo", false, x.redo());
        due("way", -1, x.way(0, 0));
        due("surest", -1, x.surest(0, 0, 0));
        due("makes", 0, x.makes(0));
        due("makes", -1, x.makes(1));
        due("hands", -1, x.hands(0, 0));
        due("deal", -1, x.deal(0, 0));
        due("fair", -1, x.fair());
        due("good", 0, x.good());
        due("round", -1, x.round(0));
        due("near", 0, x.near(0));
        due("near", 0, x.near(8));
        due("both", -1, x.both(0, 0));
        due("clumsy", -1, x.clumsy(0));
        due("idle", 0, x.idle());
        due("ends", 0, x.ends());
        due("sources", 0, x.sources());
        due("will", -1, x.will(0, 0));
        due("mirror", -100, x.mirror(0));
        due("lies", -1, x.lies(0));
        due("seen", -1, x.seen(0, 0, true));
        DOC.due("untell", false, x.untell(0));
        due("rows", 0, x.rows(0));
        due("sure", -1, x.sure(0, 0));
        due("ask", -1, x.ask(0, 0));
        due("back", -1, x.back(0));
        due("rain", 0, x.rain());
        due("night", 0, x.night());
        due("worn", 1, x.about(5));
    }

    private static CradleTreaty full(int feeds) {
        CradleTreaty x = new CradleTreaty();
        for (int i = 0; i < feeds; i++) {
            x.feed(0x20202020, 0x20202020, 0x20202020, 0x20202020, 0x20202020);
        }
        return x;
    }

    private static void feed() {
        says("Promise 2", "Twenty bytes come behind those on the TAPE, of each number the highest first:");
        CradleTreaty x = new CradleTreaty();
        // "figure abcdefgh;figu" and "re ijklmnop;" with eight blanks.
        due("feed", 20, x.feed(0x66696775, 0x72652061, 0x62636465, 0x6667683b, 0x66696775));
        due("feed", 40, x.feed(0x72652069, 0x6a6b6c6d, 0x6e6f703b, 0x20202020, 0x0a0a0a0a));
        due("treaty", 2, x.treaty());
        due("negative numbers are bytes too", 20, x.feed(0x20202020, -1, 0, 0, 0));
        due("a byte of 255", -1, x.treaty());
        due("no token", 1, x.fault(0));
        due("place", 4, x.fault(1));
        says("Promise 2", "how many there are;");
        x = new CradleTreaty();
        for (int i = 1; i <= 80; i++) {
            due("feed", 20 * i, x.feed(0, 0, 0, 0, 0));
        }
        x.end(3);
        due("behind 3", 23, x.feed(0, 0, 0, 0, 0));
        says("Promise 2", "NONE, and nothing comes, if there would be more than 1,600.");
        x = full(80);
        due("feed at 1,600", -1, x.feed(0x24242424, 0, 0, 0, 0));
        due("bytes", 1600, x.about(15));
        due("again", -1, x.feed(0x24242424, 0, 0, 0, 0));
        due("nothing came", 0, x.treaty());
        x = full(80);
        for (int n = 1599; n > 1580; n--) {
            due("end", n, x.end(n));
            due("feed at " + n, -1, x.feed(0x24242424, 0, 0, 0, 0));
            due("bytes", n, x.about(15));
        }
        due("end", 1580, x.end(1580));
        due("just room", 1600, x.feed(0x20202020, 0x20202020, 0x20202020, 0x20202020, 0x20202024));
        due("all came", -1, x.treaty());
        due("place", 1599, x.fault(1));
    }

    private static void end() {
        says("Promise 3", "The TAPE has its first n bytes: n;");
        CradleTreaty x = full(80);
        due("as it is", 1600, x.end(1600));
        due("fewer", 21, x.end(21));
        due("bytes", 21, x.about(15));
        due("none", 0, x.end(0));
        due("bytes", 0, x.about(15));
        due("none of none", 0, x.end(0));
        says("Promise 3", "NONE, doing nothing, if it has not so many, or n is below 0.");
        due("1 of none", -1, x.end(1));
        x = full(2);
        for (int n : new int[] {41, 1600, 1601, Integer.MAX_VALUE, -1, -40, Integer.MIN_VALUE}) {
            due("end", -1, x.end(n));
            due("bytes", 40, x.about(15));
        }
        x.end(30);
        due("what is cut is gone", -1, x.end(31));
        due("bytes", 30, x.about(15));
    }

    /** One of which nothing is as at first. */
    private static CradleTreaty used() {
        CradleTreaty x = Check.told(TWO + "move a b finger 0 hard 2 wrong a;move a b finger 0 hard 1;"
                + "move a b finger 0 hard 0;move b a finger 0 hard 0;worth u a 1;worth v a 2;worth v b 3;"
                + "slip (hard>0)*100;cord 5;draw 3;");
        x.later(7);
        x.seen(0, 0, false);
        x.image(0);
        x.image(2);
        x.take(1, 0);
        x.take(0, 1);
        x.night();
        x.take(1, 2);
        x.night();
        x.rain();
        x.give(0);
        x.give(1);
        x.undo();
        x.way(1, 0);
        int[] want = {2, 2, 4, 1, 0, 2, 1, 1, 1, 2, 456, 7, 1, 1, 7, 0, 4, 1};
        for (int what = 0; what < want.length; what++) {
            due("used: about " + what, want[what], x.about(what));
        }
        return x;
    }

    private static void treaty() {
        says("Promise 4", "The TAPE (empty then) is the TREATY");
        CradleTreaty x = used();
        due("treaty", 3, Check.treaty(x, figures(3)));
        due("empty then", 0, x.about(15));
        due("so the next is empty", 0, x.treaty());
        due("figures", 0, x.about(0));
        due("no moves any more", -2, x.move(0, 0));
        Check.treaty(x, "$");
        due("empty behind a fault too", 0, x.about(15));
        for (int i = 1; i <= 12; i++) {
            Check.treaty(x, "figure a;tribe t skill 0;move a a finger 0 hard 0;slip " + "0+".repeat(29) + i + ";");
            due("each by itself", i, x.slip(0, 0));
        }
        treatyAnew();
        says("Promise 4", "how many FIGURES;");
        due("none", 0, Check.treaty(x, "tribe u skill 0;"));
        due("most", 8, Check.treaty(x, figures(8)));
        treatyWithAFault();
    }

    private static void treatyAnew() {
        says("Promise 4", "(all as told, day 0, no ACTS are kept, nothing is SEEN, nothing lies there, "
                + "BOXES are empty then; the TIME stays)");
        CradleTreaty x = used();
        due("anew", 2, Check.treaty(x, TWO + "move a a finger 0 hard 0;draw 4;"));
        int[] want = {2, 2, 1, 0, 0, 0, 0, 0, 0, 0, 4, 0, 0, 0, 7, 0, 0, 0};
        for (int what = 0; what < want.length; what++) {
            due("about " + what, want[what], x.about(what));
        }
        for (int tribe = 0; tribe < 2; tribe++) {
            due("has", 0, x.tribe(tribe, 3));
            due("slept", 0, x.tribe(tribe, 4));
        }
        DOC.due("undo", false, x.undo());
        DOC.due("redo", false, x.redo());
        DOC.due("untell", false, x.untell(0));
        due("nothing that was seen counts", 1, x.rows(7));
        due("lies", -1, x.lies(0));
        for (int box = 0; box < 3; box++) {
            due("back", -1, x.back(box));
        }
        toldAnew();
    }

    /** What was told is gone, whichever treaty of one object it was. */
    private static void toldAnew() {
        CradleTreaty x = new CradleTreaty();
        String full = "figure z;figure b;tribe w skill 9 stiff 5 mirrors;tribe v skill 8 stiff 4 mirrors;"
                + "move z z finger 4 hard 1 wrong b;worth w z 7;worth v b 8;slip 55;cord 2;draw 8;";
        String plain = TWO + "move a b finger 4 hard 9;";
        for (int i = 0; i < 3; i++) {
            due("full", 2, Check.treaty(x, full));
            due("plain", 2, Check.treaty(x, plain));
            isPlain(x);
            due("plain again", 2, Check.treaty(x, plain));
            isPlain(x);
        }
    }

    private static void isPlain(CradleTreaty x) {
        due("slip is not told any more", 90, x.slip(0, 0));
        due("wrong is not told any more", -1, x.move(0, 4));
        for (int tribe = 0; tribe < 2; tribe++) {
            due("skill", 0, x.tribe(tribe, 0));
            due("not stiff any more", 0, x.tribe(tribe, 1));
            due("mirrors no more", 0, x.tribe(tribe, 2));
            due("can do it", 1, x.tribe(tribe, 5));
            due("worth is not told any more", 0, x.worth(tribe, 0) + x.worth(tribe, 1));
        }
        for (int night = 1; night <= 8; night++) {
            x.night();
        }
        due("cord is not told any more", 8, x.about(5));
        due("draw is not told any more", 0, x.about(10));
        due("units", 0, x.about(16));
    }

    private static void treatyWithAFault() {
        says("Promise 4", "NONE: a FAULT (all stays).");
        CradleTreaty x = used();
        String before = Sentences.all(x);
        for (String text : new String[] {"$", "figure z;figure z;", "draw 8;cord 1;slip 50;$", figures(9)}) {
            due("treaty of " + text, -1, Check.treaty(x, text));
            DOC.same("treaty of " + text, before, x);
        }
        due("slip", 100, x.slip(0, 0));
        due("slip", 0, x.slip(0, 2));
        due("worth", 3, x.worth(1, 1));
        due("lies", 3, x.lies(0));
        DOC.due("redo", true, x.redo());
        due("what was seen counts", 0, x.rows(7));
        DOC.due("untell", true, x.untell(0));
        due("no box", -1, x.back(1));
        due("box", 0, x.back(2));
    }

    private static void fault() {
        says("Promise 5", "Of the latest treaty() what 0: its FAULT (0), 1: its place (NONE).");
        CradleTreaty x = new CradleTreaty();
        due("before any", 0, x.fault(0));
        due("before any", -1, x.fault(1));
        Check.treaty(x, "cord 0;");
        due("fault", 4, x.fault(0));
        due("place", 5, x.fault(1));
        Check.treaty(x, "$");
        due("the latest", 1, x.fault(0));
        due("at 0", 0, x.fault(1));
        x.feed(0, 0, 0, 0, 0);
        x.end(0);
        due("what is fed changes nothing", 1, x.fault(0));
        x.treaty();
        due("none", 0, x.fault(0));
        due("no place", -1, x.fault(1));
        says("Promise 5", "NONE for another what.");
        Check.treaty(x, "cord 0;");
        for (int what : WRONG_NUMBERS) {
            due("fault of " + what, -1, x.fault(what));
        }
    }
}
