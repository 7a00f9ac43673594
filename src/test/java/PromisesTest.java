/** The promises 1 to 42, one part each, with answers worked out by hand. */
public final class PromisesTest {
    private static final Check CHECK = new Check("PromisesTest");

    // p can't by finger 2; q mirrors and can't by 9 - 7; r can by all.
    private static final String BASE = "figure a;figure b;figure c;figure d;"
            + "tribe p skill 4 stiff 2;tribe q skill 0 stiff 7 mirrors;tribe r skill 9;"
            + "move a b finger 2 hard 3;move a c finger 7 hard 5 wrong d;move c a finger 2 hard 1;"
            + "move b c finger 0 hard 9;move c b finger 5 hard 2;move d d finger 1 hard 0;"
            + "worth p a 1;worth p b 5;worth q b 2;worth q c 7;worth r d 9;cord 4;draw 5;";
    private static final int[] WRONG_NUMBERS = {-2147483648, -100, -2, -1, 99, 1000, 2147483647};

    public static void main(String[] args) {
        newObject();
        feedAndEnd();
        treatyAndFault();
        tribes();
        moves();
        worths();
        slips();
        takes();
        rains();
        gives();
        nights();
        undoneAndRedone();
        actsKept();
        ways();
        surestWays();
        makesAndHands();
        deals();
        fairAndGood();
        rounds();
        nearAndBoth();
        clumsyAndIdle();
        endsAndSources();
        wills();
        mirrors();
        seenAndFelt();
        times();
        rows();
        sureAndAsk();
        images();
        abouts();
        CHECK.finish();
    }

    private static void due(String call, long want, long got) {
        CHECK.due(call, want, got);
    }

    private static void due(String call, boolean want, boolean got) {
        CHECK.due(call, want, got);
    }

    private static void newObject() {
        CradleTreaty x = new CradleTreaty();
        due("NONE", -1, CradleTreaty.NONE);
        int[] want = {0, 0, 0, -1, -1, 0, 0, 0, 0, 0, 0, 0, 0, 0, 0, 0, 0, 0, -1};
        for (int what = 0; what < want.length; what++) {
            due("new: about " + what, want[what], x.about(what));
        }
        due("new: fault", 0, x.fault(0));
        due("new: place", -1, x.fault(1));
        due("new: undo", false, x.undo());
        due("new: redo", false, x.redo());
        due("new: lies", -1, x.lies(0));
        due("new: back", -1, x.back(0));
        due("new: untell", false, x.untell(0));
        due("new: good", 0, x.good());
        due("new: felt needs no figure", 0, x.felt(1, 0, true));
        due("new: seen needs one", -1, x.seen(0, 0, true));
        due("new: nothing is empty and right", 0, x.treaty());
    }

    private static void feedAndEnd() {
        CradleTreaty x = new CradleTreaty();
        for (int i = 1; i <= 80; i++) {
            due("feed", 20 * i, x.feed(i, 0, 0, 0, 0));
        }
        due("feed beyond 1,600", -1, x.feed(0, 0, 0, 0, 0));
        due("bytes", 1600, x.about(15));
        due("end below 0", -1, x.end(-1));
        due("end above", -1, x.end(1601));
        due("end as it is", 1600, x.end(1600));
        due("end 1581", 1581, x.end(1581));
        due("feed without room", -1, x.feed(0, 0, 0, 0, 0));
        due("end 1580", 1580, x.end(1580));
        due("feed with just room", 1600, x.feed(0, 0, 0, 0, 0));
        due("end 0", 0, x.end(0));
        due("end 1 of 0", -1, x.end(1));
        // "figure abcdefgh;xxxx": the highest byte of each number is first.
        due("feed", 20, x.feed(0x66696775, 0x72652061, 0x62636465, 0x6667683b, 0x78787878));
        due("end", 16, x.end(16));
        due("treaty", 1, x.treaty());
        due("the tape is empty then", 0, x.about(15));
    }

    private static void treatyAndFault() {
        CradleTreaty x = Check.told(BASE);
        x.night();
        x.rain();
        x.way(1, 1);
        x.way(2, 1);
        x.image(1);
        x.seen(1, 1, true);
        x.later(7);
        due("a fault", -1, Check.treaty(x, "figure z;figure z;"));
        due("its fault", 3, x.fault(0));
        due("its place", 16, x.fault(1));
        due("the tape is empty then", 0, x.about(15));
        due("all stays: figures", 4, x.about(0));
        due("all stays: acts", 2, x.about(11));
        due("all stays: seen", 1, x.about(13));
        due("all stays: lies", 1, x.about(17));
        due("all stays: box", 1, x.back(1));
        x.night();
        due("anew", 4, Check.treaty(x, BASE));
        due("no fault", 0, x.fault(0));
        due("no place", -1, x.fault(1));
        due("fault of what", -1, x.fault(2));
        due("fault of what", -1, x.fault(-1));
        int[] want = {4, 3, 6, 0, 0, 0, 0, 0, 0, 0, 5, 0, 0, 0, 7, 0, 0, 0};
        for (int what = 0; what < want.length; what++) {
            due("anew: about " + what, want[what], x.about(what));
        }
        due("anew: has", 0, x.tribe(0, 3));
        due("anew: slept", 0, x.tribe(0, 4));
        due("anew: boxes", -1, x.back(1));
        due("anew: lies", -1, x.lies(0));
        due("empty", 0, x.treaty());
        due("empty: tribes", 0, x.about(1));
        due("empty: worth", -1, x.worth(0, 0));
    }

    private static void tribes() {
        CradleTreaty x = Check.told(BASE);
        int[][] want = {{4, 4, 0, 0, 0, 58, 0}, {0, 128, 1, 0, 0, 58, 2}, {9, 0, 0, 0, 0, 63, 3}};
        for (int tribe = 0; tribe < 3; tribe++) {
            for (int what = 0; what < 7; what++) {
                due("tribe " + tribe + " " + what, want[tribe][what], x.tribe(tribe, what));
            }
            due("tribe of what", -1, x.tribe(tribe, 7));
            due("tribe of what", -1, x.tribe(tribe, -1));
        }
        due("no tribe", -1, x.tribe(3, 0));
        x.give(2);
        due("not the holder any more", 2, x.tribe(0, 6));
        due("the holder", 0, x.tribe(2, 6));
        for (int wrong : WRONG_NUMBERS) {
            due("no tribe", -1, x.tribe(wrong, 0));
            due("tribe of what", -1, x.tribe(0, wrong));
        }
    }

    private static void moves() {
        CradleTreaty x = Check.told(BASE);
        int[][] want = {{0, 1, 2, 3, -1, 4}, {0, 2, 7, 5, 3, 7}, {2, 0, 2, 1, -1, 4},
            {1, 2, 0, 9, -1, 7}, {2, 1, 5, 2, -1, 7}, {3, 3, 1, 0, -1, 7}};
        for (int move = 0; move < 6; move++) {
            for (int what = 0; what < 6; what++) {
                due("move " + move + " " + what, want[move][what], x.move(move, what));
            }
            due("move of what", -2, x.move(move, 6));
        }
        due("no move", -2, x.move(6, 0));
        for (int wrong : WRONG_NUMBERS) {
            due("no move", -2, x.move(wrong, 0));
            due("move of what", -2, x.move(0, wrong));
        }
    }

    private static void worths() {
        CradleTreaty x = Check.told(BASE);
        int[][] want = {{1, 5, 0, 0}, {0, 2, 7, 0}, {0, 0, 0, 9}};
        for (int tribe = 0; tribe < 3; tribe++) {
            for (int figure = 0; figure < 4; figure++) {
                due("worth", want[tribe][figure], x.worth(tribe, figure));
            }
            due("no figure", -1, x.worth(tribe, 4));
        }
        due("no tribe", -1, x.worth(3, 0));
        for (int wrong : WRONG_NUMBERS) {
            due("no tribe", -1, x.worth(wrong, 0));
            due("no figure", -1, x.worth(0, wrong));
        }
        Check.treaty(x, "figure a;tribe a skill 0;worth a a 99;");
        due("one name for both sorts", 99, x.worth(0, 0));
        Check.treaty(x, "figure a;tribe a skill 0;");
        due("nothing is left of it", 0, x.worth(0, 0));
    }

    private static void slips() {
        CradleTreaty x = Check.told(BASE);
        due("10 * hard - 5 * skill", 30, x.slip(0, 1));
        due("whether it can or not", 10, x.slip(0, 0));
        due("0 at least", 0, x.slip(2, 0));
        due("90", 90, x.slip(1, 3));
        due("no tribe", -1, x.slip(3, 0));
        due("no move", -1, x.slip(0, 6));
        for (int wrong : WRONG_NUMBERS) {
            due("no tribe", -1, x.slip(wrong, 0));
            due("no move", -1, x.slip(0, wrong));
        }
        dueSlip("101", 100, 1);
        dueSlip("7+2*3", 13, 3);
        dueSlip("20-5-3", 12, 3);
        dueSlip("60/7*2%9", 7, 4);
        dueSlip("5/0+3", 3, 3);
        dueSlip("5%0+4", 4, 3);
        dueSlip("(0-7)/2+10", 7, 5);
        dueSlip("(0-7)%4+10", 7, 5);
        dueSlip("1<2", 1, 2);
        dueSlip("2<2", 0, 2);
        dueSlip("3>2", 1, 2);
        dueSlip("2=2", 1, 2);
        dueSlip("not 5", 0, 1);
        dueSlip("not not 5", 1, 1);
        dueSlip("not 3<2", 1, 2);
        dueSlip("5 and 7", 1, 2);
        dueSlip("5 and 0", 0, 2);
        dueSlip("0 or 7", 1, 2);
        dueSlip("0 or 0", 0, 2);
        dueSlip("1 or 0 and 0", 1, 3);
        dueSlip("(1 or 0)and 0", 0, 4);
        dueSlip("(5)", 5, 2);
        dueSlip("not(0)*3", 1, 3);
        dueSlip("(not 0)*3", 3, 3);
        dueSlip("hard*10+skill", 34, 3);
        dueSlip("9999*9999*9999>0", 0, 4);
        dueSlip("worn+wet+day+77", 77, 4);
        dueSlip("not not not not not not not 1", 0, 1);
        dueSlip("(((((((7)))))))", 7, 8);
        dueSlip("1+1+1+1+1+1+1+1+1+1+1+1+1+1+1+1+1+1+1+1+1+1+1+1+1+1+1+1+1+1", 30, 30);
        // The least int by the one below 0 wraps.
        dueSlip("(8192*8192*32)/(0-1)<0", 1, 8);
        dueSlip("(8192*8192*32)%(0-1)+6", 6, 8);
        dueSlipsByState();
    }

    /** By hard 3 and skill 4. */
    private static void dueSlip(String e, int want, int units) {
        CradleTreaty x = Check.told("figure a;tribe t skill 4;move a a finger 0 hard 3;slip " + e + ";");
        due("slip " + e, want, x.slip(0, 0));
        due("units of " + e, units, x.about(16));
    }

    private static void dueSlipsByState() {
        CradleTreaty x = Check.told("figure a;tribe t skill 4;move a a finger 0 hard 3;"
                + "slip worn+10*wet+day*day;cord 2;");
        due("at first", 0, x.slip(0, 0));
        x.rain();
        due("wet", 10, x.slip(0, 0));
        x.night();
        due("worn 1, day 1", 2, x.slip(0, 0));
        x.night();
        due("worn 0, day 2", 4, x.slip(0, 0));
    }

    private static void takes() {
        CradleTreaty x = Check.told(BASE);
        due("the holder", -1, x.take(0, 1));
        due("from another figure", -1, x.take(1, 3));
        due("by a stiff finger", -1, x.take(1, 0));
        due("no move", -1, x.take(1, 6));
        due("no tribe", -1, x.take(3, 1));
        for (int wrong : WRONG_NUMBERS) {
            due("no tribe", -1, x.take(wrong, 1));
            due("no move", -1, x.take(1, wrong));
        }
        due("nothing was done", 5, x.about(10));
        due("no act", 0, x.about(11));
        due("56 is not less than 50", 2, x.take(1, 1));
        due("the seed", 756, x.about(10));
        due("the holder", 1, x.about(4));
        due("no slip", 1, x.take(0, 4));
        due("62 is less than 90", 0, x.take(1, 3));
        due("a drop", 1, x.about(8));
        due("no wrong", 0, x.about(7));
        due("the holder, whatever came", 1, x.about(4));
        due("the seed", 162, x.about(10));
        due("acts", 3, x.about(11));
        Check.treaty(x, BASE + "slip 57;");
        x.night();
        x.rain();
        due("56 is less than 57", 3, x.take(2, 1));
        due("a wrong", 1, x.about(7));
        due("no drop", 0, x.about(8));
        due("worn as it was", 1, x.about(5));
        due("the holder, whatever came", 2, x.about(4));
        Check.treaty(x, BASE + "slip 57;");
        x.night();
        x.rain();
        due("a drop", 0, x.take(2, 0));
        due("not worn", 0, x.about(5));
        due("wet as it was", 1, x.about(6));
        Check.treaty(x, BASE + "slip 56;");
        due("56 is not less than 56", 1, x.take(2, 0));
        Check.treaty(x, "figure a;tribe t skill 9;");
        due("no moves", -1, x.take(0, 0));
    }

    private static void rains() {
        CradleTreaty x = Check.told(BASE);
        x.night();
        due("rain", 1, x.rain());
        due("wet", 1, x.about(6));
        due("rain again", -1, x.rain());
        due("acts", 2, x.about(11));
        x.night();
        due("dry", 0, x.about(6));
        due("rain", 2, x.rain());
    }

    private static void gives() {
        CradleTreaty x = Check.told(BASE);
        due("to the same", -1, x.give(0));
        due("to none", -1, x.give(3));
        for (int wrong : WRONG_NUMBERS) {
            due("to none", -1, x.give(wrong));
        }
        due("no act", 0, x.about(11));
        due("give", 0, x.give(2));
        due("give", 2, x.give(1));
        due("the holder", 1, x.about(4));
        due("the figure", 0, x.about(3));
        due("acts", 2, x.about(11));
        due("without tribes", -1, new CradleTreaty().give(0));
    }

    private static void nights() {
        CradleTreaty x = Check.told(BASE);
        x.take(2, 0);
        due("worths to all", 7, x.night());
        due("has", 5, x.tribe(0, 3));
        due("has", 2, x.tribe(1, 3));
        due("has", 0, x.tribe(2, 3));
        due("slept", 0, x.tribe(0, 4));
        due("slept", 1, x.tribe(2, 4));
        due("worn", 1, x.about(5));
        due("day", 1, x.about(9));
        x.night();
        x.night();
        due("not dropped yet", 1, x.about(3));
        due("worth of what it was", 7, x.night());
        due("dropped", 0, x.about(3));
        due("not worn", 0, x.about(5));
        due("a drop", 1, x.about(8));
        due("the same holder", 2, x.about(4));
        due("has", 20, x.tribe(0, 3));
        due("then by the first", 1, x.night());
        due("day", 5, x.about(9));
        due("slept", 5, x.tribe(2, 4));
        Check.treaty(x, "");
        for (int i = 0; i < 9; i++) {
            due("worn", i, x.about(5));
            x.night();
        }
        due("a cord lasts 9 nights", 0, x.about(5));
        due("a drop", 1, x.about(8));
        due("no figure", -1, x.about(3));
        for (int i = 9; i < 999; i++) {
            due("night", 0, x.night());
        }
        due("behind 999", -1, x.night());
        due("day", 999, x.about(9));
    }

    private static void undoneAndRedone() {
        CradleTreaty x = Check.told(BASE + "slip 57;");
        x.rain();
        x.take(2, 1);
        x.night();
        due("undo", true, x.undo());
        due("day", 0, x.about(9));
        due("has", 0, x.tribe(2, 3));
        due("slept", 0, x.tribe(2, 4));
        due("wet", 1, x.about(6));
        due("can be undone", 2, x.about(11));
        due("can be redone", 1, x.about(12));
        due("undo", true, x.undo());
        due("figure", 0, x.about(3));
        due("holder", 0, x.about(4));
        due("wrongs", 0, x.about(7));
        due("seed", 5, x.about(10));
        due("redo", true, x.redo());
        due("figure", 3, x.about(3));
        due("wrongs", 1, x.about(7));
        due("seed", 756, x.about(10));
        due("redo", true, x.redo());
        due("has", 9, x.tribe(2, 3));
        due("no more", false, x.redo());
        x.undo();
        due("what can't be is no act", -1, x.rain());
        due("still there", 1, x.about(12));
        x.give(0);
        due("till another act", 0, x.about(12));
        due("till another act", false, x.redo());
        due("undo", true, x.undo());
        due("undo", true, x.undo());
        due("undo", true, x.undo());
        due("no more", false, x.undo());
        due("dry", 0, x.about(6));
    }

    private static void actsKept() {
        CradleTreaty x = Check.told(BASE);
        for (int i = 0; i < 43; i++) {
            x.night();
        }
        due("40 are kept", 40, x.about(11));
        for (int i = 0; i < 40; i++) {
            due("undo", true, x.undo());
        }
        due("the oldest are gone", false, x.undo());
        due("day", 3, x.about(9));
        due("can be redone", 40, x.about(12));
        for (int i = 0; i < 40; i++) {
            due("redo", true, x.redo());
        }
        due("no more", false, x.redo());
        due("day", 43, x.about(9));
    }

    private static void ways() {
        CradleTreaty x = Check.told(BASE);
        due("there", 0, x.way(1, 0));
        due("nothing lies", 0, x.about(17));
        due("q, then p", 2, x.way(1, 1));
        due("lies", 1, x.lies(0));
        due("lies", 4, x.lies(1));
        due("lies", -1, x.lies(2));
        due("lies", -1, x.lies(-1));
        due("r", 1, x.way(2, 1));
        due("lies", 0, x.lies(0));
        due("by no slip", -1, x.way(2, 3));
        due("nothing lies", 0, x.about(17));
        x.way(2, 1);
        due("the holder", -1, x.way(0, 1));
        due("nothing lies", -1, x.lies(0));
        due("no figure", -1, x.way(1, 4));
        due("no tribe", -1, x.way(3, 1));
        for (int wrong : WRONG_NUMBERS) {
            x.way(2, 1);
            due("no tribe", -1, x.way(wrong, 1));
            due("nothing lies", -1, x.lies(0));
            x.way(2, 1);
            due("no figure", -1, x.way(1, wrong));
            due("nothing lies", -1, x.lies(0));
            due("lies", -1, x.lies(wrong));
        }
        due("nothing is done", 0, x.about(11));
        // u can't by finger 0, so the second one is by move 3; the first of two alike by move 1.
        Check.treaty(x, "figure a;figure b;figure c;figure d;tribe u skill 0 stiff 0;tribe v skill 0;"
                + "move b d finger 0 hard 0;move a b finger 0 hard 0;move a c finger 0 hard 0;"
                + "move b d finger 1 hard 0;move c d finger 1 hard 0;");
        due("way", 2, x.way(1, 3));
        due("lies", 1, x.lies(0));
        due("lies", 3, x.lies(1));
        x.give(1);
        due("u can't begin", -1, x.way(0, 3));
    }

    private static void surestWays() {
        CradleTreaty x = Check.told(BASE);
        due("there", 1, x.surest(1, 0, 0));
        due("there", 1, x.surest(1, 0, 1));
        due("nothing lies", 0, x.about(17));
        due("q 50 of 100, then p for sure", 1, x.surest(1, 1, 0));
        due("of", 2, x.surest(1, 1, 1));
        due("lies", 1, x.lies(0));
        due("lies", 4, x.lies(1));
        due("r 95 of 100", 19, x.surest(2, 2, 0));
        due("of", 20, x.surest(2, 2, 1));
        due("lies", 1, x.about(17));
        due("by no slip", -1, x.surest(2, 3, 0));
        due("nothing lies", 0, x.about(17));
        x.surest(2, 2, 0);
        due("no part", -1, x.surest(2, 2, 2));
        due("nothing lies", 0, x.about(17));
        due("no part", -1, x.surest(2, 2, -1));
        due("the holder", -1, x.surest(0, 2, 0));
        due("no tribe", -1, x.surest(3, 2, 0));
        due("no figure", -1, x.surest(2, 4, 0));
        surestOfMore();
    }

    private static void surestOfMore() {
        String two = "tribe u skill 0;tribe v skill 0;";
        // Straight on by hard 5, or three times by hard 1: 729 of 1000 is more than 1 of 2.
        CradleTreaty x = Check.told("figure a;figure b;figure c;figure d;" + two
                + "move a d finger 0 hard 5;move a b finger 0 hard 1;move b c finger 0 hard 1;"
                + "move c d finger 0 hard 1;");
        due("the longer one", 729, x.surest(1, 3, 0));
        due("of", 1000, x.surest(1, 3, 1));
        due("lies", 3, x.about(17));
        due("lies", 1, x.lies(0));
        due("lies", 3, x.lies(2));
        // All slip for sure: the fewest of them, the first of them.
        x = Check.told("figure a;figure b;figure c;" + two
                + "move a b finger 0 hard 1;move b c finger 0 hard 1;move b c finger 0 hard 0;"
                + "slip hard*100;");
        due("0 too", 0, x.surest(1, 2, 0));
        due("of", 1, x.surest(1, 2, 1));
        due("lies", 0, x.lies(0));
        due("the first", 1, x.lies(1));
        // Four takings are enough for e, five for f are too many.
        x = Check.told("figure a;figure b;figure c;figure d;figure e;figure f;" + two
                + "move a b finger 0 hard 0;move b c finger 0 hard 0;move c d finger 0 hard 0;"
                + "move d e finger 0 hard 0;move e f finger 0 hard 0;");
        due("four", 1, x.surest(1, 4, 0));
        due("four lie", 4, x.about(17));
        due("five", -1, x.surest(1, 5, 0));
        due("nothing lies", 0, x.about(17));
        due("the way has five", 5, x.way(1, 5));
        // Of like ones the fewest, though another has the lesser number.
        x = Check.told("figure a;figure b;figure c;" + two
                + "move a b finger 0 hard 0;move b c finger 0 hard 0;move a c finger 0 hard 0;");
        due("sure", 1, x.surest(1, 2, 0));
        due("the fewest", 1, x.about(17));
        due("lies", 2, x.lies(0));
    }

    private static void makesAndHands() {
        CradleTreaty x = Check.told(BASE);
        due("the holder alone", 1, x.makes(0));
        due("the holder alone", 1, x.makes(1));
        due("p and q", 7, x.makes(2));
        due("p and q", 7, x.makes(3));
        due("all", 7, x.makes(7));
        due("no such", -1, x.makes(8));
        for (int wrong : WRONG_NUMBERS) {
            due("no such", -1, x.makes(wrong));
            due("no figure", -1, x.hands(wrong, 0));
            due("of what", -1, x.hands(0, wrong));
        }
        due("there", 0, x.hands(0, 0));
        due("there", 0, x.hands(0, 1));
        due("one", 1, x.hands(1, 0));
        due("the least set", 2, x.hands(1, 1));
        due("all are not enough", -1, x.hands(3, 0));
        due("of what", -1, x.hands(1, 2));
        due("no figure", -1, x.hands(4, 0));
        // a to b by v only, b to c by w only.
        Check.treaty(x, "figure a;figure b;figure c;tribe u skill 0 stiff 0 stiff 1;"
                + "tribe v skill 0 stiff 1;tribe w skill 0 stiff 0;"
                + "move a b finger 0 hard 0;move b c finger 1 hard 0;");
        due("v alone", 3, x.makes(2));
        due("v and w", 7, x.makes(6));
        due("two", 2, x.hands(2, 0));
        due("v and w", 6, x.hands(2, 1));
        x.give(1);
        due("besides the holder v none can begin", -1, x.hands(2, 0));
        // One can't take it from itself.
        Check.treaty(x, "figure a;figure b;figure c;tribe u skill 0 stiff 0;tribe v skill 0;"
                + "move a b finger 0 hard 0;move b c finger 0 hard 0;");
        due("v holds it then", 3, x.makes(3));
        Check.treaty(x, "figure a;figure b;");
        due("without tribes", 1, x.makes(0));
        due("without tribes", 0, x.hands(0, 0));
        due("without tribes", -1, x.hands(1, 0));
    }

    private static void deals() {
        CradleTreaty x = Check.told("figure a;figure b;figure c;tribe u skill 0;tribe v skill 0;"
                + "tribe w skill 0 stiff 1;"
                + "move a b finger 0 hard 9;move a c finger 1 hard 9;move b c finger 2 hard 9;"
                + "worth u a 1;worth u b 2;worth u c 3;worth v b 5;worth v c 4;worth w b 7;worth w c 7;");
        due("none", 0, x.deal(1, 0));
        due("v takes b", 1, x.deal(1, 1));
        due("u would go on to c", 2, x.deal(1, 2));
        due("w goes by its first", 1, x.deal(2, 1));
        due("of like ones", 2, x.deal(2, 2));
        due("the holder", -1, x.deal(0, 1));
        due("n", -1, x.deal(1, 9));
        due("n", -1, x.deal(1, -1));
        due("no tribe", -1, x.deal(3, 1));
        for (int wrong : WRONG_NUMBERS) {
            due("no tribe", -1, x.deal(wrong, 1));
            due("n", -1, x.deal(1, wrong));
        }
        // Nothing is worth more: it is left as it is.
        Check.treaty(x, "figure a;figure b;tribe u skill 0;tribe v skill 0;move a b finger 0 hard 0;");
        due("left", 0, x.deal(1, 8));
        Check.treaty(x, "tribe u skill 0;tribe v skill 0;");
        due("without figures", -1, x.deal(1, 0));
    }

    private static void fairAndGood() {
        CradleTreaty x = Check.told("figure a;figure b;figure c;figure d;tribe u skill 0;tribe v skill 0;"
                + "worth u a 9;worth v a 1;worth u b 2;worth v b 5;worth u c 6;worth v c 2;"
                + "worth u d 2;worth v d 6;");
        due("least 2, most 8, first", 2, x.fair());
        due("b is beaten by d", 13, x.good());
        Check.treaty(x, "figure a;figure b;tribe u skill 0;worth u b 1;");
        due("fair", 1, x.fair());
        due("good", 2, x.good());
        Check.treaty(x, "figure a;figure b;");
        due("without tribes", 0, x.fair());
        due("without tribes", 3, x.good());
        Check.treaty(x, "tribe u skill 0;");
        due("without figures", -1, x.fair());
        due("without figures", 0, x.good());
    }

    private static void rounds() {
        CradleTreaty x = Check.told(BASE);
        due("a c a", 2, x.round(0));
        due("b c b", 2, x.round(1));
        due("d d", 1, x.round(3));
        due("no figure", -1, x.round(4));
        for (int wrong : WRONG_NUMBERS) {
            due("no figure", -1, x.round(wrong));
        }
        Check.treaty(x, "figure a;figure b;tribe u skill 0 stiff 3;move a b finger 0 hard 0;"
                + "move b a finger 3 hard 0;");
        due("nobody can", -1, x.round(0));
        StringBuilder text = new StringBuilder("tribe u skill 0;");
        for (char name = 'a'; name <= 'h'; name++) {
            text.append("figure ").append(name).append(';');
        }
        for (char name = 'a'; name <= 'h'; name++) {
            char then = name == 'h' ? 'a' : (char) (name + 1);
            text.append("move ").append(name).append(' ').append(then).append(" finger 0 hard 0;");
        }
        Check.treaty(x, text.toString());
        due("all the way round", 8, x.round(5));
    }

    private static void nearAndBoth() {
        CradleTreaty x = Check.told(BASE);
        due("there", 1, x.near(0));
        due("b, c", 6, x.near(1));
        due("a, b, c", 7, x.near(2));
        due("n", -1, x.near(9));
        due("n", -1, x.near(-1));
        due("p and q", 58, x.both(0, 1));
        due("q and r", 58, x.both(1, 2));
        due("r and r", 63, x.both(2, 2));
        due("no tribe", -1, x.both(0, 3));
        for (int wrong : WRONG_NUMBERS) {
            due("n", -1, x.near(wrong));
            due("no tribe", -1, x.both(wrong, 0));
            due("no tribe", -1, x.both(0, wrong));
        }
        Check.treaty(x, "figure a;figure b;tribe u skill 0 stiff 3;move a b finger 3 hard 0;");
        due("nobody can", 0, x.near(1));
    }

    private static void clumsyAndIdle() {
        CradleTreaty x = Check.told(BASE);
        due("of those that can", 2, x.clumsy(0));
        due("q", 1, x.clumsy(1));
        due("of like ones the first", 0, x.clumsy(5));
        due("no move", -1, x.clumsy(6));
        for (int wrong : WRONG_NUMBERS) {
            due("no move", -1, x.clumsy(wrong));
        }
        due("none is idle", 0, x.idle());
        Check.treaty(x, "figure a;figure b;tribe u skill 0 stiff 3;tribe v skill 0 stiff 3;"
                + "tribe w skill 0;move a b finger 3 hard 0;");
        due("not the holder", 2, x.idle());
        x.take(2, 0);
        due("no move from there", 3, x.idle());
        Check.treaty(x, "figure a;tribe u skill 0 stiff 3;move a a finger 3 hard 0;");
        due("none can", -1, x.clumsy(0));
        Check.treaty(x, "tribe u skill 0;tribe v skill 0;");
        due("without figures", 2, x.idle());
    }

    private static void endsAndSources() {
        CradleTreaty x = Check.told(BASE);
        due("ends", 0, x.ends());
        due("sources", 0, x.sources());
        Check.treaty(x, "figure a;figure b;figure c;figure d;tribe u skill 0 stiff 3;"
                + "move a a finger 0 hard 0;move b c finger 3 hard 0;move a b finger 0 hard 0 wrong d;");
        due("b by no hand, c, d", 14, x.ends());
        due("only its own move leads to a", 1, x.sources());
        Check.treaty(x, "figure a;figure b;figure c;move a a finger 0 hard 0 wrong a;"
                + "move b b finger 0 hard 0 wrong c;");
        due("without tribes", 7, x.ends());
        due("a wrong one of another", 3, x.sources());
    }

    private static void wills() {
        CradleTreaty x = Check.told(BASE);
        x.take(2, 0);
        x.night();
        due("now", 5, x.will(0, 0));
        due("three more as b", 20, x.will(0, 3));
        due("then as a", 22, x.will(0, 5));
        due("as b, then as a", 20 + 57, x.will(0, 60));
        due("q", 8, x.will(1, 60));
        due("n", -1, x.will(0, 61));
        due("n", -1, x.will(0, -1));
        due("no tribe", -1, x.will(3, 0));
        for (int wrong : WRONG_NUMBERS) {
            due("no tribe", -1, x.will(wrong, 0));
        }
        due("nothing is done", 1, x.about(9));
        Check.treaty(x, "figure a;tribe u skill 0;worth u a 1;");
        for (int i = 0; i < 999; i++) {
            x.night();
        }
        due("beyond day 999", 1059, x.will(0, 60));
    }

    private static void mirrors() {
        CradleTreaty x = Check.told(BASE);
        due("p: fingers 2, 2 against 7", 1, x.mirror(0));
        due("q: by 7 once against twice by 2", 1, x.mirror(1));
        due("r", 0, x.mirror(2));
        due("no tribe", -100, x.mirror(3));
        for (int wrong : WRONG_NUMBERS) {
            due("no tribe", -100, x.mirror(wrong));
        }
        Check.treaty(x, "figure a;tribe u skill 0 stiff 9;move a a finger 0 hard 0;");
        due("below 0", -1, x.mirror(0));
    }

    private static void seenAndFelt() {
        CradleTreaty x = Check.told(BASE);
        due("seen", 0, x.seen(0, 0, true));
        due("felt", 1, x.felt(6, 9, false));
        due("moves", -1, x.seen(7, 0, true));
        due("no figure", -1, x.seen(0, 4, true));
        due("n 0", -1, x.felt(0, 0, true));
        due("n 7", -1, x.felt(7, 0, true));
        due("no finger", -1, x.felt(1, 10, true));
        for (int wrong : WRONG_NUMBERS) {
            due("moves", -1, x.seen(wrong, 0, true));
            due("no figure", -1, x.seen(0, wrong, true));
            due("n", -1, x.felt(wrong, 0, true));
            due("no finger", -1, x.felt(1, wrong, true));
            due("none such", false, x.untell(wrong));
        }
        due("untell", true, x.untell(0));
        due("so already", false, x.untell(0));
        due("none such", false, x.untell(2));
        for (int i = 2; i < 30; i++) {
            due("seen", i, x.seen(1, 2, false));
        }
        due("there are 30", 30, x.about(13));
        due("31", -1, x.seen(1, 2, false));
        due("31", -1, x.felt(1, 2, false));
        due("untell", true, x.untell(29));
        due("there are 30 still", -1, x.felt(1, 2, false));
    }

    private static void times() {
        CradleTreaty x = new CradleTreaty();
        due("later", 0, x.later(0));
        due("later", 1000, x.later(1000));
        due("later", -1, x.later(1001));
        due("later", -1, x.later(-1));
        for (int i = 2; i < 100; i++) {
            due("later", 1000 * i, x.later(1000));
        }
        due("later", 99999, x.later(999));
        due("above 100,000", -1, x.later(2));
        due("the time", 99999, x.about(14));
        due("later", 100000, x.later(1));
        due("later", 100000, x.later(0));
        due("later", -1, x.later(1));
        due("a far one", -1, x.later(2147483647));
    }

    private static void rows() {
        // From a: six times by 0 or by 1 to b, where there are two ways to stay.
        CradleTreaty x = Check.told("figure a;figure b;tribe u skill 0 stiff 0;"
                + "move a a finger 0 hard 0;move a b finger 1 hard 0;"
                + "move b b finger 2 hard 0;move b b finger 3 hard 0;");
        due("1 + 1 + 2 + 4 + 8 + 16 + 32", 64, x.rows(0));
        due("before all", 64, x.rows(-5));
        x.later(10);
        due("seen", 0, x.seen(3, 1, true));
        due("not known ahead of it", 64, x.rows(9));
        due("b behind 3: 32 + 16 + 8", 56, x.rows(10));
        x.later(5);
        due("felt", 1, x.felt(6, 3, false));
        due("as known at 14", 56, x.rows(14));
        due("half of them", 28, x.rows(15));
        x.later(5);
        x.untell(0);
        due("as known at 19", 28, x.rows(19));
        due("as known at 20", 33, x.rows(20));
        due("as known at 10 still", 56, x.rows(10));
        due("told and untold at once", 2, x.seen(0, 0, false));
        due("none", 0, x.rows(20));
        x.untell(2);
        due("it counts no more", 33, x.rows(20));
        due("far on", 33, x.rows(2147483647));
        due("long ago", 64, x.rows(-2147483648));
        Check.treaty(x, "");
        due("without figures", 0, x.rows(0));
        Check.treaty(x, "figure a;" + "move a a finger 0 hard 0;".repeat(16));
        due("16 to the 6th", 16777216, x.rows(0));
        x.felt(1, 0, true);
        due("all by 0", 16777216, x.rows(20));
        x.felt(2, 0, false);
        due("none by another", 0, x.rows(20));
    }

    private static void sureAndAsk() {
        CradleTreaty x = Check.told("figure a;figure b;"
                + "move a a finger 0 hard 0;move a b finger 1 hard 0;"
                + "move b b finger 2 hard 0;move b b finger 3 hard 0;");
        due("the first", 0, x.sure(0, 0));
        due("not the same", -2, x.sure(1, 0));
        due("no number", -1, x.sure(7, 0));
        due("no number", -1, x.sure(-1, 0));
        due("32 or 32", 1, x.ask(0, 0));
        due("left", 32, x.ask(1, 0));
        due("of what", -1, x.ask(2, 0));
        due("of what", -1, x.ask(-1, 0));
        x.later(1);
        x.seen(4, 0, true);
        due("a, a, a, a, a", 0, x.sure(4, 1));
        due("a ahead of it", 0, x.sure(2, 1));
        due("not the same", -2, x.sure(5, 1));
        due("not known yet", -2, x.sure(4, 0));
        due("a a, a b, b b, b b", 5, x.ask(0, 1));
        due("left", 2, x.ask(1, 1));
        x.seen(4, 0, false);
        due("no rows", -1, x.sure(0, 1));
        due("no rows", -1, x.ask(0, 1));
        due("no rows", -1, x.ask(1, 1));
        due("rows at 0", 32, x.ask(1, 0));
    }

    private static void images() {
        CradleTreaty x = Check.told(BASE + "slip 57;");
        due("nothing was", -1, x.back(0));
        x.rain();
        x.take(2, 1);
        x.night();
        x.rain();
        due("image", 1, x.image(2));
        due("acts stay", 4, x.about(11));
        x.give(1);
        x.night();
        x.night();
        x.seen(1, 1, true);
        x.later(3);
        x.way(2, 3);
        int lie = x.about(17);
        x.undo();
        due("nothing was", -1, x.back(1));
        due("nothing was done", 1, x.about(12));
        due("back", 1, x.back(2));
        int[] want = {4, 3, 6, 3, 2, 1, 1, 1, 0, 1, 756, 0, 0, 1, 3, 0, 1, lie};
        for (int what = 0; what < want.length; what++) {
            due("back: about " + what, want[what], x.about(what));
        }
        due("has", 9, x.tribe(2, 3));
        due("slept", 1, x.tribe(2, 4));
        due("slept", 0, x.tribe(1, 4));
        due("no acts", false, x.undo());
        due("no acts", false, x.redo());
        x.night();
        due("undo", true, x.undo());
        due("to what was kept", 1, x.about(9));
        due("again", 1, x.back(2));
        for (int wrong : new int[] {-1, 3, -2147483648, 2147483647}) {
            due("no box", -1, x.image(wrong));
            due("no box", -1, x.back(wrong));
        }
    }

    private static void abouts() {
        CradleTreaty x = Check.told(BASE + "slip 1+(2-wet);");
        x.feed(0, 0, 0, 0, 0);
        x.later(4);
        x.seen(1, 1, true);
        x.rain();
        x.night();
        x.undo();
        x.way(1, 1);
        int[] want = {4, 3, 6, 0, 0, 0, 1, 0, 0, 0, 5, 1, 1, 1, 4, 20, 4, 2};
        for (int what = 0; what < want.length; what++) {
            due("about " + what, want[what], x.about(what));
        }
        for (int wrong : new int[] {18, -1, -2147483648, 2147483647}) {
            due("about what", -1, x.about(wrong));
        }
    }
}
