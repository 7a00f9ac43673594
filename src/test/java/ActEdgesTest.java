/**
 * The edges that the document names of tribes, moves and acts: its terms 2 and the promises 6 to 15,
 * and of images and of what there is: the promises 40 to 42.
 */
public final class ActEdgesTest {
    private static final Sentences DOC = new Sentences("ActEdgesTest");
    private static final String TERMS = "Terms 2";
    // Beyond every sort; 32 and 64 are where a shift would wrap.
    private static final int[] FAR_NUMBERS = {Integer.MIN_VALUE, Integer.MIN_VALUE + 1, -64, -32, -2, -1,
        18, 31, 32, 33, 63, 64, 65, 256, 65536, Integer.MAX_VALUE};
    private static final String TWO = "figure a;figure b;tribe u skill 0;tribe v skill 0;";
    // u holds a at first; v can't by 3, w by none but 9.
    private static final String THREE = "figure a;figure b;figure c;tribe u skill 1;tribe v skill 2 stiff 3;"
            + "tribe w skill 3 stiff 0 stiff 1 stiff 2 stiff 3 stiff 4 stiff 5 stiff 6 stiff 7 stiff 8;"
            + "move a b finger 3 hard 4;move a b finger 4 hard 5 wrong c;move b a finger 9 hard 6;"
            + "move a a finger 9 hard 0;worth u a 1;worth v a 10;worth w b 7;";

    public static void main(String[] args) {
        atFirst();
        can();
        formulas();
        numbers();
        takings();
        seeds();
        slips();
        nights();
        acts();
        tribe();
        move();
        worthAndSlip();
        take();
        rain();
        give();
        night();
        undo();
        redo();
        image();
        back();
        about();
        DOC.tested(Sentences.partsOf(2, 6, 15));
        DOC.tested("Promise 40", "Promise 41", "Promise 42");
        DOC.finish();
    }

    private static void says(String part, String words) {
        DOC.says(part, words);
    }

    private static void due(String call, long want, long got) {
        DOC.due(call, want, got);
    }

    private static void atFirst() {
        says(TERMS, "There is a FIGURE (the first one, at first)");
        due("the first", 0, Check.told(TWO).about(3));
        due("of one", 0, Check.told("figure a;").about(3));
        says(TERMS, "a HOLDER (the first TRIBE, at first; none without TRIBES)");
        due("the first", 0, Check.told(TWO).about(4));
        due("of one", 0, Check.told("tribe t skill 0;").about(4));
        due("none", -1, Check.told("figure a;").about(4));
        says(TERMS, "how WORN the cord is (0 at first), if it is WET (1; not at first).");
        CradleTreaty x = Check.told(TWO);
        due("worn", 0, x.about(5));
        due("wet", 0, x.about(6));
        x.rain();
        due("wet", 1, x.about(6));
    }

    private static void can() {
        says(TERMS, "A TRIBE CAN do a MOVE, if the finger (of one that mirrors: 9 less it) is not stiff.");
        StringBuilder moves = new StringBuilder();
        for (int finger = 0; finger <= 9; finger++) {
            moves.append("move a a finger ").append(finger).append(" hard 0;");
        }
        for (int stiff = 0; stiff <= 9; stiff++) {
            CradleTreaty x = Check.told("figure a;tribe t skill 0 stiff " + stiff + ";tribe m skill 0 stiff "
                    + stiff + " mirrors;" + moves);
            due("can by all but " + stiff, 1023 & ~(1 << stiff), x.tribe(0, 5));
            due("can by all but 9 less " + stiff, 1023 & ~(512 >> stiff), x.tribe(1, 5));
        }
        CradleTreaty x = Check.told("figure a;tribe t skill 0;tribe m skill 0 mirrors;" + moves);
        due("can by all", 1023, x.tribe(0, 5));
        due("can by all", 1023, x.tribe(1, 5));
    }

    /** SLIP by a formula, with hard 3 and skill 4. */
    private static void slip(int want, String e) {
        CradleTreaty x = Check.told("figure a;tribe t skill 4;move a a finger 0 hard 3;slip " + e + ";");
        due("slip " + e, want, x.slip(0, 0));
    }

    private static void formulas() {
        says(TERMS, "what comes of slip (10 times hard less 5 times skill, if it is not told)");
        for (int hard = 0; hard <= 9; hard += 3) {
            for (int skill = 0; skill <= 9; skill += 3) {
                String text = "figure a;tribe t skill " + skill + ";move a a finger 0 hard " + hard + ";";
                due("slip not told", Math.max(0, 10 * hard - 5 * skill), Check.told(text).slip(0, 0));
                due("slip 0", 0, Check.told(text + "slip 0;").slip(0, 0));
            }
        }
        says(TERMS, "by hard, skill, worn, wet, day (0 at first;");
        slip(34, "hard*10+skill");
        CradleTreaty x = Check.told("figure a;tribe t skill 4;move a a finger 0 hard 3;cord 3;"
                + "slip worn+wet*10+day*20;");
        due("at first", 0, x.slip(0, 0));
        x.rain();
        due("wet", 10, x.slip(0, 0));
        x.night();
        due("day 1, worn 1", 21, x.slip(0, 0));
        x.night();
        x.night();
        due("day 3, not worn", 60, x.slip(0, 0));
        x.undo();
        due("day 2, worn 2", 42, x.slip(0, 0));
    }

    private static void numbers() {
        says(TERMS, "ints, wrapping;");
        // 9999 * 9999 * 43 is 4,299,140,043, which is 4,172,747 beyond 2 to the 32nd.
        slip(47, "9999*9999*43-4172*1000-700");
        slip(1, "8192*8192*32<0");
        slip(1, "8192*8192*32-1>0");
        slip(1, "8192*8192*32-1+1<0");
        slip(1, "(8192*8192*32)/(0-1)<0");
        slip(7, "(8192*8192*32)%(0-1)+7");
        slip(5, "8192*8192*64+5");
        says(TERMS, "/ cut,");
        slip(3, "7/2");
        slip(7, "(0-7)/2+10");
        slip(7, "7/(0-2)+10");
        slip(3, "(0-7)/(0-2)");
        slip(0, "7/8");
        says(TERMS, "% its rest,");
        slip(1, "7%2");
        slip(7, "(0-7)%4+10");
        slip(13, "7%(0-4)+10");
        slip(7, "(0-7)%(0-4)+10");
        slip(0, "8%4");
        says(TERMS, "both by 0: 0;");
        slip(0, "50/0");
        slip(0, "50%0");
        slip(3, "50/0+3");
        slip(3, "50%(wet*2)+3");
        slip(3, "0/0+3");
        slip(4, "(0-50)/worn+4");
        slip(0, "50/0*3");
        says(TERMS, "relations, and, or, not are 1 or 0, of what is not 0)");
        slip(1, "1<2");
        slip(0, "2<2");
        slip(0, "3<2");
        slip(0, "1>2");
        slip(0, "2>2");
        slip(1, "3>2");
        slip(0, "1=2");
        slip(1, "2=2");
        slip(1, "0-5<0-4");
        slip(1, "5 and 7");
        slip(1, "5 and (0-7)");
        slip(0, "5 and 0");
        slip(0, "0 and 5");
        slip(1, "5 or 7");
        slip(1, "(0-5) or 0");
        slip(1, "0 or 7");
        slip(0, "0 or 0");
        slip(0, "not 5");
        slip(0, "not (0-5)");
        slip(1, "not 0");
        slip(50, "(not 0)*50");
        says(TERMS, "0 at least, 100 at most: of 100.");
        slip(0, "0");
        slip(0, "0-1");
        slip(0, "0-9999*9999");
        slip(99, "99");
        slip(100, "100");
        slip(100, "101");
        slip(100, "9999*9999");
        due("by the usual one", 90, Check.told("figure a;tribe t skill 0;move a a finger 0 hard 9;").slip(0, 0));
        due("by the usual one", 0, Check.told("figure a;tribe t skill 9;move a a finger 0 hard 0;").slip(0, 0));
    }

    private static void refused(CradleTreaty x, String call, int tribe, int move) {
        String before = Sentences.all(x);
        due(call, -1, x.take(tribe, move));
        DOC.same(call, before, x);
    }

    private static void takings() {
        says(TERMS, "a TRIBE that is not the HOLDER does a MOVE from the FIGURE that is there, which it CAN:");
        CradleTreaty x = Check.told(THREE + "slip 0;");
        refused(x, "the holder", 0, 0);
        refused(x, "not from there", 1, 2);
        refused(x, "by a stiff finger", 1, 0);
        refused(x, "by a stiff finger", 2, 1);
        due("by 4", 1, x.take(1, 1));
        refused(x, "the holder now", 1, 2);
        refused(x, "not from there now", 0, 0);
        due("by 9", 0, x.take(2, 2));
        due("to the same", 0, x.take(1, 3));
        says(TERMS, "if it does not slip it is the MOVE's second FIGURE.");
        x = Check.told(TWO + "figure c;move a c finger 0 hard 0 wrong b;");
        due("the second", 2, x.take(1, 0));
        due("no wrong", 0, x.about(7));
        due("no drop", 0, x.about(8));
        says(TERMS, "It is the HOLDER then, whatever came.");
        for (int slip = 0; slip <= 100; slip += 100) {
            for (int move = 0; move < 2; move++) {
                x = Check.told(TWO + "move a b finger 0 hard 0;move a b finger 0 hard 0 wrong a;slip "
                        + slip + ";");
                x.take(1, move);
                due("the holder behind slip " + slip, 1, x.about(4));
            }
        }
    }

    private static void seeds() {
        says(TERMS, "the SEED (draw, at first) becomes its 137-fold and 71 more, modulo 1,000;");
        int[][] fromTo = {{0, 71}, {1, 208}, {6, 893}, {7, 30}, {817, 0}, {999, 934}, {744, 999}, {500, 571}};
        for (int[] seeds : fromTo) {
            CradleTreaty x = Check.told(TWO + "move a a finger 0 hard 0;draw " + seeds[0] + ";");
            due("draw", seeds[0], x.about(10));
            x.take(1, 0);
            due("seed behind " + seeds[0], seeds[1], x.about(10));
        }
        CradleTreaty x = Check.told(TWO + "move a a finger 0 hard 0;");
        int[] row = {71, 798, 397, 460, 91, 538, 777, 520};
        for (int i = 0; i < row.length; i++) {
            x.take(1 - i % 2, 0);
            due("one behind the other", row[i], x.about(10));
        }
        due("night", 0, x.night());
        x.rain();
        x.give(0);
        due("by nothing else", 520, x.about(10));
    }

    /** Behind draw 44 the seed is 99, behind 817 it is 0, behind 7 it is 30. */
    private static CradleTreaty taken(int draw, int slip, String wrong) {
        CradleTreaty x = Check.told(TWO + "figure c;move a b finger 0 hard 0" + wrong + ";draw " + draw
                + ";slip " + slip + ";");
        x.take(1, 0);
        return x;
    }

    private static void slips() {
        says(TERMS, "if its rest by 100 is less than its SLIP,");
        due("0 is not less than 0", 1, taken(817, 0, "").about(3));
        due("0 is less than 1", 0, taken(817, 1, "").about(3));
        due("30 is not less than 30", 1, taken(7, 30, "").about(3));
        due("30 is less than 31", 0, taken(7, 31, "").about(3));
        due("99 is not less than 99", 1, taken(44, 99, "").about(3));
        due("99 is less than 100", 0, taken(44, 100, "").about(3));
        // Behind 999 it is 934.
        due("34 is not less than 34", 1, taken(999, 34, "").about(3));
        due("34 is less than 35", 0, taken(999, 35, "").about(3));
        says(TERMS, "it is the wrong FIGURE then, if one is told (a WRONG more),");
        CradleTreaty x = taken(7, 31, " wrong c");
        due("the wrong one", 2, x.about(3));
        due("a wrong", 1, x.about(7));
        due("no drop", 0, x.about(8));
        due("the first may be it", 0, taken(7, 31, " wrong a").about(3));
        due("and is no drop", 0, taken(7, 31, " wrong a").about(8));
        due("and is a wrong", 1, taken(7, 31, " wrong a").about(7));
        due("the right one may be it", 1, taken(7, 31, " wrong b").about(7));
        x = Check.told(TWO + "figure c;move a b finger 0 hard 0 wrong c;cord 5;slip 100;");
        x.night();
        x.rain();
        x.take(1, 0);
        due("worn as it was", 1, x.about(5));
        due("wet as it was", 1, x.about(6));
        says(TERMS, "else it is DROPPED: the first FIGURE, not WORN (a DROP more);");
        x = Check.told(TWO + "move a b finger 0 hard 0;move b b finger 1 hard 1;cord 5;slip hard*100;");
        x.take(1, 0);
        x.night();
        x.night();
        x.rain();
        due("worn", 2, x.about(5));
        due("the first", 0, x.take(0, 1));
        due("not worn", 0, x.about(5));
        due("a drop", 1, x.about(8));
        due("no wrong", 0, x.about(7));
        due("wet as it was", 1, x.about(6));
        due("day as it was", 2, x.about(9));
    }

    private static void nights() {
        says(TERMS, "each TRIBE has so much more as the FIGURE is worth to it;");
        CradleTreaty x = Check.told(TWO + "worth u a 99;worth v b 5;cord 2;");
        for (int night = 1; night <= 3; night++) {
            x.night();
            due("has", 99 * night, x.tribe(0, 3));
            due("has none of it", 0, x.tribe(1, 3));
        }
        says(TERMS, "the HOLDER slept once more with it;");
        x = Check.told(TWO);
        x.night();
        x.give(1);
        x.night();
        x.night();
        due("slept", 1, x.tribe(0, 4));
        due("slept", 2, x.tribe(1, 4));
        due("without tribes", 0, Check.told("figure a;").night());
        says(TERMS, "it is WORN 1 more; if that is as much as cord tells it is DROPPED (a DROP more);");
        for (int cord : new int[] {1, 2, 3, 9, 99}) {
            x = Check.told(TWO + "move a b finger 0 hard 0;cord " + cord + ";worth u b 3;");
            x.take(1, 0);
            for (int night = 1; night < cord; night++) {
                x.night();
                due("worn of " + cord, night, x.about(5));
            }
            due("not dropped yet", 1, x.about(3));
            due("no drop yet", 0, x.about(8));
            due("worth as it was", 3, x.night());
            due("dropped", 0, x.about(3));
            due("not worn", 0, x.about(5));
            due("a drop", 1, x.about(8));
            due("the holder still", 1, x.about(4));
            due("has by what it was", 3 * cord, x.tribe(0, 3));
        }
        says(TERMS, "it is not WET any more; the day goes up by 1.");
        x = Check.told(TWO);
        x.rain();
        x.night();
        due("dry", 0, x.about(6));
        due("day", 1, x.about(9));
        x.night();
        due("dry still", 0, x.about(6));
        due("day", 2, x.about(9));
    }

    private static void acts() {
        says(TERMS, "ACTS: a TAKING; RAIN (it is WET); a TRIBE is given the cord as it is; a NIGHT.");
        CradleTreaty x = Check.told(TWO + "move a b finger 0 hard 0;cord 5;");
        x.take(1, 0);
        due("a taking", 1, x.about(11));
        x.night();
        due("a night", 2, x.about(11));
        x.rain();
        due("rain", 3, x.about(11));
        x.give(0);
        due("given", 4, x.about(11));
        due("as it is: figure", 1, x.about(3));
        due("as it is: worn", 1, x.about(5));
        due("as it is: wet", 1, x.about(6));
        due("as it is: seed", 71, x.about(10));
        x.way(1, 0);
        x.image(0);
        x.seen(0, 0, true);
        x.later(1);
        x.feed(0, 0, 0, 0, 0);
        due("nothing else", 4, x.about(11));
        says(TERMS, "UNDO takes back the latest ACT that was not,");
        due("holder", 0, x.about(4));
        x.undo();
        due("not given", 1, x.about(4));
        x.undo();
        due("no rain", 0, x.about(6));
        x.undo();
        due("no night", 0, x.about(9));
        due("not slept", 0, x.tribe(1, 4));
        x.undo();
        due("not taken", 0, x.about(3));
        due("holder", 0, x.about(4));
        due("seed", 0, x.about(10));
        DOC.due("none", false, x.undo());
        CradleTreaty y = moved();
        String[] behind = new String[7];
        for (int i = 6; i >= 0; i--) {
            behind[i] = stateOf(y);
            y.undo();
        }
        for (int i = 0; i < 7; i++) {
            DOC.due("again behind " + i, true, behind[i].equals(stateOf(y)));
            y.redo();
        }
        says(TERMS, "REDO does that again which was taken back last (till another ACT);");
        due("four", 4, x.about(12));
        x.redo();
        due("taken", 1, x.about(3));
        x.redo();
        due("a night", 1, x.about(9));
        due("two", 2, x.about(12));
        due("no act, as it can't be", -1, x.give(1));
        due("two still", 2, x.about(12));
        x.give(0);
        due("none behind another act", 0, x.about(12));
        DOC.due("none", false, x.redo());
        due("dry", 0, x.about(6));
        says(TERMS, "40 at most are kept, the oldest go.");
        for (int more : new int[] {0, 1, 2, 50}) {
            keptActs(more);
        }
    }

    /** What an act can change. */
    private static String stateOf(CradleTreaty x) {
        StringBuilder text = new StringBuilder();
        for (int what = 3; what <= 10; what++) {
            text.append(x.about(what)).append(' ');
        }
        for (int tribe = 0; tribe < x.about(1); tribe++) {
            text.append(x.tribe(tribe, 3)).append(' ').append(x.tribe(tribe, 4)).append(' ');
        }
        return text.toString();
    }

    private static void keptActs(int more) {
        CradleTreaty x = Check.told("tribe u skill 0;cord 99;");
        for (int night = 1; night <= 40 + more; night++) {
            x.night();
            due("kept", Math.min(40, night), x.about(11));
        }
        for (int i = 1; i <= 40; i++) {
            DOC.due("undo", true, x.undo());
        }
        DOC.due("the oldest are gone", false, x.undo());
        due("day", more, x.about(9));
        due("redone", 40, x.about(12));
        for (int i = 1; i <= 40; i++) {
            DOC.due("redo", true, x.redo());
            due("day", more + i, x.about(9));
        }
        DOC.due("no more", false, x.redo());
        x.undo();
        x.undo();
        x.rain();
        due("in the place of two", 39, x.about(11));
        due("none", 0, x.about(12));
        x.undo();
        due("day", more + 38, x.about(9));
    }

    private static void tribe() {
        says("Promise 6", "Of a TRIBE what 0: skill, 1: stiff fingers, as bits, 2: 1 if it mirrors, else 0,");
        CradleTreaty x = Check.told("tribe t skill 0 stiff 0 stiff 9;tribe u skill 9 mirrors;");
        due("skill", 0, x.tribe(0, 0));
        due("skill", 9, x.tribe(1, 0));
        due("stiff", 513, x.tribe(0, 1));
        due("stiff", 0, x.tribe(1, 1));
        due("does not mirror", 0, x.tribe(0, 2));
        due("mirrors", 1, x.tribe(1, 2));
        x = Check.told("tribe t skill 0 mirrors;tribe u skill 0;tribe v skill 0 mirrors;");
        due("mirrors", 1, x.tribe(0, 2));
        due("does not", 0, x.tribe(1, 2));
        due("mirrors", 1, x.tribe(2, 2));
        says("Promise 6", "3: what it has, 4: how often it slept with it,");
        x = Check.told(THREE);
        for (int tribe = 0; tribe < 3; tribe++) {
            due("at first", 0, x.tribe(tribe, 3));
            due("at first", 0, x.tribe(tribe, 4));
        }
        x.night();
        x.night();
        due("has", 20, x.tribe(1, 3));
        due("slept", 2, x.tribe(0, 4));
        due("did not", 0, x.tribe(1, 4));
        says("Promise 6", "5: MOVES that it CAN do, as bits,");
        due("no moves", 0, Check.told("tribe t skill 0;").tribe(0, 5));
        due("sixteen", 65535, Check.told(TWO + "move b a finger 0 hard 0;".repeat(16)).tribe(1, 5));
        says("Promise 6", "6: those from the FIGURE that is there (0 of the HOLDER);");
        x = Check.told(THREE + "slip 0;");
        due("the holder", 0, x.tribe(0, 6));
        due("from a", 10, x.tribe(1, 6));
        due("from a", 8, x.tribe(2, 6));
        x.take(1, 1);
        due("from b", 4, x.tribe(0, 6));
        due("the holder", 0, x.tribe(1, 6));
        due("from b", 4, x.tribe(2, 6));
        due("without figures", 0, Check.told("tribe t skill 0;tribe u skill 0;").tribe(1, 6));
        says("Promise 6", "NONE if there is none such, or for another what.");
        for (int what = 0; what <= 6; what++) {
            due("no tribe", -1, x.tribe(3, what));
            due("no tribe", -1, x.tribe(-1, what));
        }
        for (int wrong : FAR_NUMBERS) {
            due("no tribe", -1, x.tribe(wrong, 0));
            due("of what", -1, x.tribe(0, wrong));
        }
        due("of what", -1, x.tribe(0, 7));
        due("without tribes", -1, Check.told("figure a;").tribe(0, 0));
    }

    private static void move() {
        says("Promise 7", "Of a MOVE what 0: from which FIGURE, 1: to which, 2: the finger, 3: hard,");
        CradleTreaty x = Check.told("figure a;" + "move a a finger 0 hard 0;".repeat(15)
                + "figure b;move b a finger 9 hard 8;");
        int[] last = {1, 0, 9, 8};
        for (int what = 0; what < 4; what++) {
            due("the first", 0, x.move(0, what));
            due("the last", last[what], x.move(15, what));
        }
        says("Promise 7", "4: the wrong FIGURE (NONE),");
        x = Check.told(THREE);
        due("none", -1, x.move(0, 4));
        due("c", 2, x.move(1, 4));
        due("the first", 0, Check.told(TWO + "move a b finger 0 hard 0 wrong a;").move(0, 4));
        says("Promise 7", "5: TRIBES that CAN do it, as bits;");
        due("u", 1, x.move(0, 5));
        due("u, v", 3, x.move(1, 5));
        due("all", 7, x.move(2, 5));
        due("without tribes", 0, Check.told("figure a;move a a finger 0 hard 0;").move(0, 5));
        due("nobody can", 0, Check.told("figure a;tribe t skill 0 stiff 4;move a a finger 4 hard 0;").move(0, 5));
        says("Promise 7", "-2 if there is none such, or for another what.");
        for (int what = 0; what <= 5; what++) {
            due("no move", -2, x.move(4, what));
            due("no move", -2, x.move(-1, what));
        }
        for (int wrong : FAR_NUMBERS) {
            due("no move", -2, x.move(wrong, 0));
            due("of what", -2, x.move(0, wrong));
        }
        due("of what", -2, x.move(0, 6));
        due("without moves", -2, Check.told(TWO).move(0, 0));
    }

    private static void worthAndSlip() {
        says("Promise 8", "What a FIGURE is worth to a TRIBE;");
        CradleTreaty x = Check.told(THREE);
        due("u, a", 1, x.worth(0, 0));
        due("not told", 0, x.worth(0, 2));
        says("Promise 8", "NONE if one can't be.");
        due("can be", 7, x.worth(2, 1));
        due("no tribe", -1, x.worth(3, 0));
        due("no figure", -1, x.worth(0, 3));
        for (int wrong : FAR_NUMBERS) {
            due("no tribe", -1, x.worth(wrong, 0));
            due("no figure", -1, x.worth(0, wrong));
            due("neither", -1, x.worth(wrong, wrong));
        }
        due("without figures", -1, Check.told("tribe t skill 0;").worth(0, 0));
        due("without tribes", -1, Check.told("figure a;").worth(0, 0));
        says("Promise 9", "NONE if one can't be");
        due("no tribe", -1, x.slip(3, 0));
        due("no move", -1, x.slip(0, 4));
        for (int wrong : FAR_NUMBERS) {
            due("no tribe", -1, x.slip(wrong, 0));
            due("no move", -1, x.slip(0, wrong));
            due("neither", -1, x.slip(wrong, wrong));
        }
        due("without moves", -1, Check.told(TWO).slip(0, 0));
        due("without tribes", -1, Check.told("figure a;move a a finger 0 hard 0;").slip(0, 0));
        says("Promise 9", "(whether it CAN do it or not).");
        due("v can't", 30, x.slip(1, 0));
        due("w can't", 35, x.slip(2, 1));
        due("the holder", 35, x.slip(0, 0));
    }

    private static void take() {
        says("Promise 10", "A TAKING: the FIGURE that it is then;");
        CradleTreaty x = Check.told(THREE + "slip hard%2*100;");
        due("the wrong one", 2, x.take(1, 1));
        x = Check.told(THREE + "slip 0;");
        due("the second", 1, x.take(1, 1));
        due("dropped", 0, taken(7, 31, "").about(3));
        says("Promise 10", "NONE, doing nothing, if it can't be. (An ACT.)");
        x = Check.told(THREE + "slip 0;");
        x.rain();
        x.undo();
        refused(x, "the holder", 0, 0);
        refused(x, "not from there", 1, 2);
        refused(x, "by a stiff finger", 1, 0);
        refused(x, "no tribe", 3, 0);
        refused(x, "no move", 1, 4);
        String before = Sentences.all(x);
        for (int wrong : FAR_NUMBERS) {
            due("no tribe", -1, x.take(wrong, 1));
            due("no move", -1, x.take(1, wrong));
        }
        DOC.same("take", before, x);
        due("rain can be done again", 1, x.about(12));
        x.take(1, 1);
        due("an act", 1, x.about(11));
        due("till another act", 0, x.about(12));
        refused(Check.told("figure a;tribe t skill 0;move a a finger 0 hard 0;"), "none but the holder", 0, 0);
        refused(Check.told("figure a;move a a finger 0 hard 0;"), "without tribes", 0, 0);
        refused(Check.told(TWO), "without moves", 1, 0);
    }

    private static void rain() {
        says("Promise 11", "RAIN: how WORN it is;");
        CradleTreaty x = Check.told("figure a;cord 3;");
        due("not worn", 0, x.rain());
        x.night();
        x.night();
        due("worn 2", 2, x.rain());
        x.night();
        due("dropped, not worn", 0, x.rain());
        due("without figures", 0, new CradleTreaty().rain());
        says("Promise 11", "NONE, doing nothing, if it is WET already. (An ACT.)");
        x = Check.told(THREE);
        x.rain();
        due("an act", 1, x.about(11));
        x.night();
        x.undo();
        String before = Sentences.all(x);
        due("again", -1, x.rain());
        DOC.same("rain", before, x);
        DOC.due("the night can be done again", true, x.redo());
        due("dry by it", 1, x.rain());
    }

    private static void give() {
        says("Promise 12", "It is given: who was the HOLDER;");
        CradleTreaty x = Check.told(THREE);
        due("u", 0, x.give(2));
        due("w", 2, x.give(1));
        due("v", 1, x.give(0));
        due("holder", 0, x.about(4));
        says("Promise 12", "NONE, doing nothing, if it is the same, or there is none such. (An ACT.)");
        due("acts", 3, x.about(11));
        x.undo();
        String before = Sentences.all(x);
        due("the same", -1, x.give(1));
        due("none such", -1, x.give(3));
        for (int wrong : FAR_NUMBERS) {
            due("none such", -1, x.give(wrong));
        }
        DOC.same("give", before, x);
        due("without tribes", -1, Check.told("figure a;").give(0));
        due("without tribes", -1, Check.told("figure a;").give(-1));
    }

    private static void night() {
        says("Promise 13", "A NIGHT: worths to all together;");
        CradleTreaty x = Check.told(THREE + "slip 0;");
        due("of a", 11, x.night());
        x.take(1, 1);
        due("of b", 7, x.night());
        due("without tribes", 0, Check.told("figure a;").night());
        due("without figures", 0, Check.told("tribe t skill 0;").night());
        due("five of 99", 495, Check.told("figure a;tribe a skill 0;tribe b skill 0;tribe c skill 0;"
                + "tribe d skill 0;tribe e skill 0;worth a a 99;worth b a 99;worth c a 99;worth d a 99;"
                + "worth e a 99;").night());
        says("Promise 13", "NONE, doing nothing, behind 999 of them. (An ACT.)");
        // More than the 512 calls of one object, for which alone the document speaks.
        x = Check.told(THREE);
        for (int night = 1; night <= 999; night++) {
            due("night", 11, x.night());
        }
        due("day", 999, x.about(9));
        x.rain();
        String before = Sentences.all(x);
        due("one more", -1, x.night());
        DOC.same("night", before, x);
        x.undo();
        x.undo();
        due("it is undone", 998, x.about(9));
        due("so there is one more", 11, x.night());
    }

    private static void undo() {
        says("Promise 14", "UNDO: true; false if there is none.");
        CradleTreaty x = Check.told(THREE);
        String before = Sentences.all(x);
        DOC.due("none", false, x.undo());
        DOC.same("undo", before, x);
        x.rain();
        DOC.due("one", true, x.undo());
        before = Sentences.all(x);
        DOC.due("none", false, x.undo());
        DOC.same("undo", before, x);
        x.redo();
        DOC.due("one again", true, x.undo());
        x.seen(1, 1, true);
        x.later(5);
        x.way(1, 1);
        x.rain();
        x.undo();
        due("seen stays", 1, x.about(13));
        due("the time stays", 5, x.about(14));
        due("what lies there stays", 1, x.about(17));
        DOC.due("without anything", false, new CradleTreaty().undo());
    }

    private static void redo() {
        says("Promise 15", "REDO: true; false if there is none.");
        CradleTreaty x = Check.told(THREE);
        String before = Sentences.all(x);
        DOC.due("none", false, x.redo());
        DOC.same("redo", before, x);
        x.rain();
        before = Sentences.all(x);
        DOC.due("none was taken back", false, x.redo());
        DOC.same("redo", before, x);
        x.undo();
        DOC.due("one", true, x.redo());
        DOC.same("undo and redo", before, x);
        DOC.due("no more", false, x.redo());
        DOC.same("redo", before, x);
        x.undo();
        x.give(1);
        DOC.due("another act came", false, x.redo());
        DOC.due("without anything", false, new CradleTreaty().redo());
    }

    private static CradleTreaty moved() {
        CradleTreaty x = Check.told(THREE + "cord 3;slip hard%2*100;");
        x.night();
        x.night();
        x.night();
        x.take(1, 1);
        x.night();
        x.rain();
        return x;
    }

    private static void image() {
        says("Promise 40", "FIGURE, HOLDER, how WORN, WET, what TRIBES have, slept, WRONGS, DROPS, day, SEED "
                + "are kept in a BOX 0 .. 2: the day;");
        for (int box = 0; box <= 2; box++) {
            CradleTreaty x = moved();
            due("image", 4, x.image(box));
            due("acts stay", 6, x.about(11));
            x.night();
            x.night();
            x.give(2);
            x.night();
            x.take(1, 1);
            int[] changed = {2, 1, 1, 0, 2, 2, 7, 798};
            for (int i = 0; i < changed.length; i++) {
                due("since then: about " + (i + 3), changed[i], x.about(i + 3));
            }
            due("since then: has", 40, x.tribe(1, 3));
            due("since then: slept", 1, x.tribe(2, 4));
            due("of another box nothing", -1, x.back((box + 1) % 3));
            due("of another box nothing", -1, x.back((box + 2) % 3));
            due("back", 4, x.back(box));
            int[] want = {2, 1, 1, 1, 1, 1, 4, 71};
            for (int i = 0; i < want.length; i++) {
                due("about " + (i + 3), want[i], x.about(i + 3));
            }
            int[][] tribes = {{3, 3}, {30, 1}, {0, 0}};
            for (int tribe = 0; tribe < 3; tribe++) {
                due("has", tribes[tribe][0], x.tribe(tribe, 3));
                due("slept", tribes[tribe][1], x.tribe(tribe, 4));
            }
        }
        CradleTreaty x = moved();
        x.image(1);
        x.night();
        due("a box is filled anew", 5, x.image(1));
        x.night();
        due("back", 5, x.back(1));
        due("without anything", 0, new CradleTreaty().image(0));
        says("Promise 40", "NONE if there is none such.");
        String before = Sentences.all(x);
        due("no box", -1, x.image(3));
        due("no box", -1, x.image(-1));
        for (int wrong : FAR_NUMBERS) {
            due("no box", -1, x.image(wrong));
        }
        DOC.same("image", before, x);
    }

    private static void back() {
        says("Promise 41", "All is as it was kept (no ACTS are kept then): the day;");
        CradleTreaty x = moved();
        x.image(0);
        x.night();
        x.undo();
        due("acts", 6, x.about(11));
        due("back", 4, x.back(0));
        due("no acts", 0, x.about(11));
        due("none to be done again", 0, x.about(12));
        DOC.due("undo", false, x.undo());
        DOC.due("redo", false, x.redo());
        x.night();
        due("an act", 1, x.about(11));
        DOC.due("undo", true, x.undo());
        due("as it was kept", 4, x.about(9));
        due("wet as it was kept", 1, x.about(6));
        x.night();
        due("the box is as it was", 4, x.back(0));
        due("and again", 4, x.back(0));
        x.seen(1, 1, true);
        x.later(5);
        x.give(0);
        x.way(1, 2);
        x.back(0);
        due("seen stays", 1, x.about(13));
        due("the time stays", 5, x.about(14));
        says("Promise 41", "NONE, doing nothing, if nothing was.");
        x.night();
        x.night();
        x.undo();
        String before = Sentences.all(x);
        due("nothing was", -1, x.back(1));
        due("nothing was", -1, x.back(2));
        due("no box", -1, x.back(3));
        for (int wrong : FAR_NUMBERS) {
            due("no box", -1, x.back(wrong));
        }
        DOC.same("back", before, x);
        due("without anything", -1, new CradleTreaty().back(0));
    }

    private static void about() {
        says("Promise 42", "What 0: FIGURES, 1: TRIBES, 2: MOVES,");
        due("figures", 0, new CradleTreaty().about(0));
        due("figures", 3, Check.told(THREE).about(0));
        due("tribes", 0, Check.told("figure a;").about(1));
        due("tribes", 3, Check.told(THREE).about(1));
        due("moves", 0, Check.told(TWO).about(2));
        due("moves", 4, Check.told(THREE).about(2));
        says("Promise 42", "7: WRONGS, 8: DROPS, 9: the day, 10: the SEED, 11: ACTS that can be undone, "
                + "12: redone, 13: SEEN, 14: the TIME, 15: bytes on the TAPE, 16: units, 17: how many lie there.");
        int[] want = {1, 1, 4, 71, 5, 1, 1, 9, 20, 3, 0};
        CradleTreaty used = moved();
        used.undo();
        used.seen(0, 0, true);
        used.later(9);
        used.feed(0, 0, 0, 0, 0);
        for (int i = 0; i < want.length; i++) {
            due("about " + (i + 7), want[i], used.about(i + 7));
        }
        used = Check.told(THREE);
        used.way(1, 1);
        due("lie", 1, used.about(17));
        says("Promise 42", "3: the FIGURE that is there (NONE without FIGURES),");
        due("none", -1, Check.told("tribe t skill 0;").about(3));
        CradleTreaty x = Check.told("tribe t skill 0;cord 1;");
        x.night();
        due("none, dropped", -1, x.about(3));
        due("the first", 0, Check.told("figure a;").about(3));
        says("Promise 42", "4: the HOLDER (NONE),");
        due("none", -1, Check.told("figure a;").about(4));
        due("the first", 0, Check.told("tribe t skill 0;").about(4));
        says("Promise 42", "5: how WORN,");
        CradleTreaty worn = Check.told("cord 99;");
        for (int night = 0; night < 98; night++) {
            due("worn", night, worn.about(5));
            worn.night();
        }
        due("worn", 98, worn.about(5));
        says("Promise 42", "6: 1 if WET, else 0,");
        due("dry", 0, x.about(6));
        x.rain();
        due("wet", 1, x.about(6));
        says("Promise 42", "NONE for another what.");
        due("the last", 0, x.about(17));
        for (int wrong : FAR_NUMBERS) {
            due("about " + wrong, -1, x.about(wrong));
        }
    }
}
