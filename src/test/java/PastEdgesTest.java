/** The edges that the document names of what was seen: its terms 4 and the promises 33 to 39. */
public final class PastEdgesTest {
    private static final Sentences DOC = new Sentences("PastEdgesTest");
    private static final String TERMS = "Terms 4";
    // Beyond every sort; 32 and 64 are where a shift would wrap.
    private static final int[] FAR_NUMBERS = {Integer.MIN_VALUE, Integer.MIN_VALUE + 1, -64, -32, -2, -1,
        31, 32, 33, 63, 64, 65, 256, 65536, Integer.MAX_VALUE};
    // From a by 0 to a or by 1 to b; from b by 2 or by 3 to b: b comes ever more likely.
    private static final String STAIR = "figure a;figure b;tribe t skill 0 stiff 0 stiff 1;"
            + "move a a finger 0 hard 0;move a b finger 1 hard 0;"
            + "move b b finger 2 hard 0;move b b finger 3 hard 0;";

    public static void main(String[] args) {
        timesOfSeen();
        asKnownAt();
        rowsOfSix();
        sureAndAsk();
        seen();
        felt();
        untell();
        later();
        rows();
        sure();
        ask();
        DOC.tested(Sentences.partsOf(4, 33, 39));
        DOC.finish();
    }

    private static void says(String part, String words) {
        DOC.says(part, words);
    }

    private static void due(String call, long want, long got) {
        DOC.due(call, want, got);
    }

    private static void timesOfSeen() {
        says(TERMS, "SEEN, 30 at most,");
        CradleTreaty x = Check.told(STAIR);
        for (int i = 0; i < 30; i++) {
            due("seen or felt", i, i % 2 == 0 ? x.seen(0, 0, true) : x.felt(1, 9, false));
            due("how many", i + 1, x.about(13));
        }
        due("one more seen", -1, x.seen(0, 0, true));
        due("one more felt", -1, x.felt(1, 9, false));
        due("how many", 30, x.about(13));
        says(TERMS, "is TOLD at a TIME (0 at first, goes on),");
        due("at first", 0, Check.told(STAIR).about(14));
        due("at first", 0, new CradleTreaty().about(14));
        due("goes on", 5, x.later(5));
        due("goes on", 8, x.later(3));
        says(TERMS, "UNTOLD at a later one or the same,");
        x = Check.told(STAIR);
        due("told", 0, x.seen(1, 0, true));
        due("known", 32, x.rows(0));
        DOC.due("untold at the same", true, x.untell(0));
        due("never known", 64, x.rows(0));
        due("told", 1, x.seen(1, 0, true));
        x.later(1);
        DOC.due("untold at a later one", true, x.untell(1));
        due("known", 32, x.rows(0));
        due("not known any more", 64, x.rows(1));
    }

    private static void asKnownAt() {
        says(TERMS, "As known at k that counts that was TOLD at k or before, not UNTOLD at k or before.");
        CradleTreaty x = Check.told(STAIR);
        x.later(10);
        x.seen(6, 0, true);
        x.later(10);
        x.untell(0);
        x.later(10);
        int[][] knownRows = {{Integer.MIN_VALUE, 64}, {-1, 64}, {0, 64}, {9, 64}, {10, 1}, {11, 1}, {19, 1},
            {20, 64}, {21, 64}, {30, 64}, {31, 64}, {100001, 64}, {Integer.MAX_VALUE, 64}};
        for (int[] known : knownRows) {
            due("rows as known at " + known[0], known[1], x.rows(known[0]));
        }
        x.felt(1, 1, true);
        due("as known at 29", 64, x.rows(29));
        due("as known at 30", 32, x.rows(30));
        due("told stays so", 32, x.rows(Integer.MAX_VALUE));
        due("as known at 10 still", 1, x.rows(10));
    }

    private static void rowsOfSix() {
        says(TERMS, "of six MOVES, one behind the other from the first FIGURE on, done long ago (whoever did them):");
        CradleTreaty x = Check.told(STAIR);
        due("though t can't by 0 and 1", 64, x.rows(0));
        x = Check.told("figure a;figure b;move b b finger 0 hard 0;");
        due("not from the second", 0, x.rows(0));
        x = Check.told("figure a;figure b;figure c;figure d;figure e;figure f;figure g;tribe t skill 0;"
                + "move a b finger 0 hard 0;move b c finger 0 hard 0;move c d finger 0 hard 0;"
                + "move d e finger 0 hard 0;move e f finger 0 hard 0;move f g finger 0 hard 0;");
        due("just six", 1, x.rows(0));
        for (int moves = 0; moves <= 6; moves++) {
            due("behind " + moves, moves, x.sure(moves, 0));
        }
        x.take(0, 0);
        x.rain();
        due("whatever is now", 1, x.rows(0));
        x = Check.told("figure a;figure b;figure c;figure d;figure e;figure f;"
                + "move a b finger 0 hard 0;move b c finger 0 hard 0;move c d finger 0 hard 0;"
                + "move d e finger 0 hard 0;move e f finger 0 hard 0;");
        due("five are not enough", 0, x.rows(0));
        x = Check.told("figure a;figure b;move a a finger 0 hard 0 wrong b;");
        due("no wrong ones", 1, x.rows(0));
        says(TERMS, "that behind so many MOVES (0 .. 6) it was a FIGURE, or was not;");
        int[] rowsInA = {64, 32, 16, 8, 4, 2, 1};
        for (int moves = 0; moves <= 6; moves++) {
            x = Check.told(STAIR);
            x.seen(moves, 0, true);
            due("a behind " + moves, rowsInA[moves], x.rows(0));
            x = Check.told(STAIR);
            x.seen(moves, 0, false);
            due("not a behind " + moves, 64 - rowsInA[moves], x.rows(0));
            x = Check.told(STAIR);
            x.seen(moves, 1, true);
            due("b behind " + moves, 64 - rowsInA[moves], x.rows(0));
            x = Check.told(STAIR);
            x.seen(moves, 1, false);
            due("not b behind " + moves, rowsInA[moves], x.rows(0));
        }
        says(TERMS, "that a MOVE (the 1st .. 6th) was by a finger, or was not.");
        // By 1 as the n-th one: b for the first time behind n.
        for (int n = 1; n <= 6; n++) {
            int byOne = 64 >> n;
            x = Check.told(STAIR);
            x.felt(n, 1, true);
            due("by 1 as number " + n, byOne, x.rows(0));
            x = Check.told(STAIR);
            x.felt(n, 1, false);
            due("not by 1 as number " + n, 64 - byOne, x.rows(0));
            x = Check.told(STAIR);
            x.felt(n, 9, true);
            due("by 9, by which there is none", 0, x.rows(0));
            x = Check.told(STAIR);
            x.felt(n, 9, false);
            due("not by 9", 64, x.rows(0));
        }
    }

    private static void sureAndAsk() {
        says(TERMS, "ROWS: rows of six MOVES by which all that counts is so.");
        CradleTreaty x = Check.told(STAIR);
        x.seen(2, 1, true);
        due("b behind 2", 48, x.rows(0));
        x.felt(2, 1, true);
        due("by 1 to it", 16, x.rows(0));
        x.felt(3, 2, false);
        due("not by 2 then", 8, x.rows(0));
        x.seen(6, 1, true);
        due("b in the end", 8, x.rows(0));
        x.seen(1, 1, true);
        due("not so before", 0, x.rows(0));
        x = Check.told("figure a;figure b;figure c;move a a finger 0 hard 0;move a b finger 1 hard 0;"
                + "move a c finger 2 hard 0;move b b finger 3 hard 0;move c c finger 4 hard 0;");
        due("b or c from one on, or never", 13, x.rows(0));
        x.seen(6, 0, false);
        due("not never", 12, x.rows(0));
        x.seen(6, 1, false);
        due("not b either", 6, x.rows(0));
        x.felt(1, 0, false);
        due("c at once, as b is not", 1, x.rows(0));
        x.felt(1, 2, false);
        due("nor by 2", 0, x.rows(0));
        says(TERMS, "SURE of a number of MOVES: the FIGURE behind them, if it is the same in all.");
        x = Check.told(STAIR);
        x.seen(3, 0, true);
        for (int moves = 0; moves <= 3; moves++) {
            due("a", 0, x.sure(moves, 0));
        }
        for (int moves = 4; moves <= 6; moves++) {
            due("not the same", -2, x.sure(moves, 0));
        }
        x = Check.told(STAIR);
        x.seen(3, 1, true);
        for (int moves = 3; moves <= 6; moves++) {
            due("b", 1, x.sure(moves, 0));
        }
        due("not the same", -2, x.sure(2, 0));
        due("not the same", -2, x.sure(1, 0));
        due("the first", 0, x.sure(0, 0));
        says(TERMS, "ASK: the number (0 .. 6) of MOVES behind which to know the FIGURE "
                + "would leave the fewest of these at the most; of like ones the first.");
        // Seven rows: b from the n-th move on, or never; behind n moves it is a in 7 - n of them.
        x = Check.told("figure a;figure b;figure c;figure d;move a a finger 0 hard 0;move a b finger 0 hard 0;"
                + "move b b finger 0 hard 0;");
        int[] left = {7, 6, 5, 4, 4, 5, 6};
        due("the first of like ones", 3, x.ask(0, 0));
        due("left", 4, x.ask(1, 0));
        for (int moves = 0; moves <= 6; moves++) {
            CradleTreaty y = Check.told("figure a;figure b;figure c;figure d;move a a finger 0 hard 0;"
                    + "move a b finger 0 hard 0;move b b finger 0 hard 0;");
            y.seen(moves, 0, moves <= 3);
            due("so many are left behind " + moves, left[moves], y.rows(0));
        }
        x = Check.told("figure a;figure b;move a a finger 0 hard 0;");
        due("all alike: 0", 0, x.ask(0, 0));
        due("left", 1, x.ask(1, 0));
        x = Check.told("figure a;figure b;move a a finger 0 hard 0;move a b finger 0 hard 0;");
        due("the last tells it", 6, x.ask(0, 0));
        due("left", 1, x.ask(1, 0));
    }

    private static void seen() {
        says("Promise 33", "That behind so many MOVES it was a FIGURE, or was not: its number;");
        CradleTreaty x = Check.told(STAIR);
        due("0", 0, x.seen(0, 0, true));
        due("6", 1, x.seen(6, 1, false));
        due("felt ones count too", 2, x.felt(6, 9, false));
        due("the same again", 3, x.seen(0, 0, true));
        says("Promise 33", "NONE, doing nothing, if one can't be, or there are 30.");
        String before = Sentences.all(x);
        due("moves 7", -1, x.seen(7, 0, true));
        due("no figure", -1, x.seen(0, 2, true));
        for (int wrong : FAR_NUMBERS) {
            due("moves", -1, x.seen(wrong, 0, true));
            due("no figure", -1, x.seen(0, wrong, false));
        }
        DOC.same("seen", before, x);
        due("rows", 1, x.rows(0));
        due("without figures", -1, new CradleTreaty().seen(0, 0, true));
        for (int i = 4; i < 30; i++) {
            due("seen", i, x.seen(0, 0, true));
        }
        before = Sentences.all(x);
        due("there are 30", -1, x.seen(0, 0, false));
        DOC.same("seen", before, x);
        due("rows", 1, x.rows(0));
        x.untell(1);
        due("there are 30, though one is untold", -1, x.seen(0, 0, true));
        Check.treaty(x, STAIR);
        due("all of it is gone in another treaty", 64, x.rows(0));
        due("none in another treaty", 0, x.seen(0, 0, true));
    }

    private static void felt() {
        says("Promise 34", "That the n-th MOVE (1 .. 6) was by a finger, or was not: its number;");
        CradleTreaty x = Check.told(STAIR);
        due("1, 0", 0, x.felt(1, 0, true));
        due("6, 9", 1, x.felt(6, 9, false));
        due("seen ones count too", 2, x.seen(0, 0, true));
        due("without figures", 0, new CradleTreaty().felt(1, 0, true));
        says("Promise 34", "NONE likewise.");
        String before = Sentences.all(x);
        due("n 0", -1, x.felt(0, 0, true));
        due("n 7", -1, x.felt(7, 0, true));
        due("finger 10", -1, x.felt(1, 10, true));
        for (int wrong : FAR_NUMBERS) {
            due("n", -1, x.felt(wrong, 0, false));
            due("finger", -1, x.felt(1, wrong, false));
        }
        DOC.same("felt", before, x);
        due("rows", 32, x.rows(0));
        for (int i = 3; i < 30; i++) {
            due("felt", i, x.felt(1, 0, true));
        }
        due("there are 30", -1, x.felt(1, 0, false));
        due("how many", 30, x.about(13));
        due("rows", 32, x.rows(0));
    }

    private static void untell() {
        says("Promise 35", "It is UNTOLD: true; false if it is so already, or there is none such.");
        CradleTreaty x = Check.told(STAIR);
        DOC.due("none such", false, x.untell(0));
        x.seen(1, 0, true);
        x.felt(3, 0, true);
        x.later(4);
        DOC.due("none such", false, x.untell(2));
        for (int wrong : FAR_NUMBERS) {
            DOC.due("none such", false, x.untell(wrong));
        }
        due("rows", 8, x.rows(4));
        DOC.due("untold", true, x.untell(1));
        due("rows", 32, x.rows(4));
        x.later(4);
        DOC.due("so already", false, x.untell(1));
        due("untold at 4 still", 32, x.rows(4));
        due("it was known at 3", 8, x.rows(3));
        DOC.due("the other one", true, x.untell(0));
        due("rows", 64, x.rows(8));
        for (int i = 2; i < 30; i++) {
            x.seen(0, 0, true);
        }
        DOC.due("the last", true, x.untell(29));
        DOC.due("none such", false, x.untell(30));
        Check.treaty(x, STAIR);
        DOC.due("none in another treaty", false, x.untell(2));
        x.seen(0, 0, true);
        DOC.due("but that which was told in it", true, x.untell(0));
    }

    private static void later() {
        says("Promise 36", "So much later (0 .. 1000): the TIME;");
        CradleTreaty x = new CradleTreaty();
        due("0", 0, x.later(0));
        due("1", 1, x.later(1));
        due("1000", 1001, x.later(1000));
        says("Promise 36", "NONE, doing nothing, for another number,");
        String before = Sentences.all(x);
        due("1001", -1, x.later(1001));
        due("-1", -1, x.later(-1));
        for (int wrong : new int[] {Integer.MIN_VALUE, -1000, 65536, Integer.MAX_VALUE}) {
            due("later " + wrong, -1, x.later(wrong));
        }
        DOC.same("later", before, x);
        says("Promise 36", "or if it would be above 100,000.");
        for (int i = 1; i <= 98; i++) {
            x.later(1000);
        }
        due("the time", 99001, x.about(14));
        due("100,001", -1, x.later(1000));
        due("the time", 99001, x.about(14));
        due("100,000", 100000, x.later(999));
        due("100,001", -1, x.later(1));
        due("100,000 still", 100000, x.later(0));
        Check.treaty(x, STAIR);
        due("in another treaty too", -1, x.later(1));
        due("the time", 100000, x.about(14));
        x.seen(6, 0, true);
        due("known at 100,000", 1, x.rows(100000));
        due("not known at 99,999", 64, x.rows(99999));
    }

    private static void rows() {
        says("Promise 37", "ROWS: how many (0 without FIGURES).");
        due("without figures", 0, new CradleTreaty().rows(0));
        due("without figures", 0, Check.told("tribe t skill 0;").rows(0));
        due("without moves", 0, Check.told("figure a;").rows(0));
        CradleTreaty x = new CradleTreaty();
        x.felt(1, 0, false);
        due("without figures, with something felt", 0, x.rows(0));
        due("the most there are", 16777216,
                Check.told("figure a;" + "move a a finger 0 hard 0;".repeat(16)).rows(0));
        x = Check.told("figure a;" + "move a a finger 0 hard 0;".repeat(16));
        for (int i = 0; i < 29; i++) {
            x.seen(6, 0, true);
        }
        due("the same told often", 16777216, x.rows(0));
        x.seen(6, 0, false);
        due("and once otherwise", 0, x.rows(0));
    }

    private static void sure() {
        says("Promise 38", "SURE: the FIGURE;");
        CradleTreaty b = Check.told(STAIR);
        b.seen(1, 1, true);
        due("the first", 0, b.sure(0, 0));
        due("the second", 1, b.sure(1, 0));
        due("the second", 1, b.sure(6, 0));
        says("Promise 38", "-2 if it is not the same in all;");
        CradleTreaty x = Check.told(STAIR);
        due("0", 0, x.sure(0, 0));
        for (int moves = 1; moves <= 6; moves++) {
            due("not the same", -2, x.sure(moves, 0));
        }
        says("Promise 38", "NONE if there are no ROWS, or there is no such number.");
        due("7", -1, x.sure(7, 0));
        for (int wrong : FAR_NUMBERS) {
            due("no such number", -1, x.sure(wrong, 0));
        }
        x.later(1);
        x.seen(0, 0, false);
        for (int moves = 0; moves <= 6; moves++) {
            due("no rows", -1, x.sure(moves, 1));
        }
        due("rows at 0", 0, x.sure(0, 0));
        due("without figures", -1, new CradleTreaty().sure(0, 0));
        due("without moves", -1, Check.told("figure a;").sure(0, 0));
    }

    private static void ask() {
        says("Promise 39", "ASK what 0: the number, 1: how many are left at the most;");
        CradleTreaty x = Check.told(STAIR);
        due("32 or 32", 1, x.ask(0, 0));
        due("32", 32, x.ask(1, 0));
        CradleTreaty most = Check.told("figure a;" + "move a a finger 0 hard 0;".repeat(16));
        due("all alike", 0, most.ask(0, 0));
        due("all are left", 16777216, most.ask(1, 0));
        says("Promise 39", "NONE if there are no ROWS, or for another what.");
        due("of what", -1, x.ask(2, 0));
        for (int wrong : FAR_NUMBERS) {
            due("of what", -1, x.ask(wrong, 0));
        }
        x.later(1);
        x.seen(0, 1, true);
        due("no rows", -1, x.ask(0, 1));
        due("no rows", -1, x.ask(1, 1));
        due("rows at 0", 32, x.ask(1, 0));
        due("without figures", -1, new CradleTreaty().ask(0, 0));
        due("without figures", -1, new CradleTreaty().ask(1, 0));
    }
}
