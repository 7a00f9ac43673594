/** The edges that the document names of what can be: its terms 3 and the promises 16 to 32. */
public final class QuestionEdgesTest {
    private static final Sentences DOC = new Sentences("QuestionEdgesTest");
    private static final String TERMS = "Terms 3";
    // Beyond every sort; 32 and 64 are where a shift would wrap.
    private static final int[] FAR_NUMBERS = {Integer.MIN_VALUE, Integer.MIN_VALUE + 1, -64, -32, -2, -1,
        61, 63, 64, 65, 256, 65536, Integer.MAX_VALUE};
    private static final String TWO = "figure a;figure b;tribe u skill 0;tribe v skill 0;";
    private static final String PAIR = "tribe u skill 0;tribe v skill 0;";
    // u holds it and can by 0 and 1, v by 0, w by 1, x by both.
    private static final String FOUR = "tribe u skill 0;tribe v skill 0 stiff 1;tribe w skill 0 stiff 0;"
            + "tribe x skill 0;";
    private static final String WAYS = figures(4) + FOUR + moves("ab0 bc1 dd0", 0);

    public static void main(String[] args) {
        nothingIsDone();
        full();
        wayByTurns();
        firstWays();
        surestOdds();
        surestOfLikeOnes();
        makesByHands();
        handsOfLikeOnes();
        deals();
        dealsOfLikeOnes();
        fairAndGood();
        roundsAndMirrors();
        way();
        surest();
        makes();
        hands();
        deal();
        fair();
        good();
        round();
        near();
        both();
        clumsy();
        idle();
        ends();
        sources();
        will();
        mirror();
        lies();
        DOC.tested(Sentences.partsOf(3, 16, 32));
        DOC.finish();
    }

    private static void says(String part, String words) {
        DOC.says(part, words);
    }

    private static void due(String call, long want, long got) {
        DOC.due(call, want, got);
    }

    private static String figures(int n) {
        StringBuilder text = new StringBuilder();
        for (int i = 0; i < n; i++) {
            text.append("figure ").append((char) ('a' + i)).append(';');
        }
        return text.toString();
    }

    /** Moves by names of their figures and the finger, as "ab0 bc1", each as hard as told. */
    private static String moves(String row, int hard) {
        StringBuilder text = new StringBuilder();
        for (String move : row.split(" ")) {
            text.append("move ").append(move.charAt(0)).append(' ').append(move.charAt(1))
                    .append(" finger ").append(move.charAt(2)).append(" hard ").append(hard).append(';');
        }
        return text.toString();
    }

    private static void lie(CradleTreaty x, int... moves) {
        due("how many lie there", moves.length, x.about(17));
        for (int i = 0; i < moves.length; i++) {
            due("lies " + i, moves[i], x.lies(i));
        }
        due("no more lie there", -1, x.lies(moves.length));
    }

    private static void nothingIsDone() {
        says(TERMS, "(By what is now; nothing is done; nobody slips, if not told otherwise.)");
        CradleTreaty x = Check.told(figures(3) + PAIR + moves("ab0 bc0 ca0", 9) + "slip 100;worth u b 5;");
        String before = Sentences.all(x);
        due("way", 2, x.way(1, 2));
        x.way(1, 0);
        due("makes", 7, x.makes(2));
        due("hands", 1, x.hands(2, 0));
        due("deal", 0, x.deal(1, 2));
        due("round", 3, x.round(0));
        due("near", 2, x.near(1));
        due("will", 0, x.will(0, 9));
        due("surest", 1, x.surest(1, 0, 0));
        x.fair();
        x.good();
        x.both(0, 1);
        x.clumsy(0);
        x.idle();
        x.ends();
        x.sources();
        x.mirror(0);
        DOC.same("to ask", before, x);
        x.give(1);
        due("by u now", 1, x.way(0, 1));
        due("not by v any more", -1, x.way(1, 1));
        due("by u now", 1, x.hands(2, 1));
    }

    private static void full() {
        says("Terms 1", "At most 8 FIGURES, 5 TRIBES");
        CradleTreaty x = Check.told(figures(8) + "tribe p skill 0;tribe q skill 0;tribe r skill 0;tribe s skill 0;"
                + "tribe t skill 0;" + moves("ab0 bc0 cd0 de0 ef0 fg0 gh0 ha0", 1)
                + moves("ba1 cb1 dc1 ed1 fe1 gf1 hg1 ah1", 2) + "worth t h 9;worth p e 5;");
        due("can", 65535, x.tribe(4, 5));
        due("from a", 32769, x.tribe(4, 6));
        due("all five can", 31, x.move(15, 5));
        due("worth", 9, x.worth(4, 7));
        due("slip", 20, x.slip(4, 15));
        due("way back", 1, x.way(4, 7));
        lie(x, 15);
        due("way there", 4, x.way(4, 4));
        lie(x, 0, 1, 2, 3);
        due("surest", 4, x.surest(4, 7, 0));
        lie(x, 15);
        due("of", 5, x.surest(4, 7, 1));
        due("makes", 255, x.makes(31));
        due("makes", 255, x.makes(16));
        due("hands", 1, x.hands(7, 0));
        due("hands", 2, x.hands(7, 1));
        due("deal", 7, x.deal(4, 1));
        due("deal", 7, x.deal(4, 8));
        due("fair", 7, x.fair());
        due("good", 144, x.good());
        due("round", 2, x.round(7));
        due("near", 130, x.near(1));
        due("near", 85, x.near(8));
        due("both", 65535, x.both(3, 4));
        due("clumsy", 0, x.clumsy(15));
        due("idle", 0, x.idle());
        due("ends", 0, x.ends());
        due("sources", 0, x.sources());
        due("will", 0, x.will(4, 60));
        due("mirror", 0, x.mirror(4));
        due("rows", 64, x.rows(0));
        due("seen", 0, x.seen(6, 7, false));
        due("felt", 1, x.felt(1, 1, true));
        due("rows", 32, x.rows(0));
        due("h behind one", 7, x.sure(1, 0));
        due("take", 7, x.take(4, 15));
        due("night", 9, x.night());
        due("has", 9, x.tribe(4, 3));
        due("slept", 1, x.tribe(4, 4));
    }

    private static void wayByTurns() {
        says(TERMS, "WAY to a FIGURE by the HOLDER and another TRIBE by turns: the fewest TAKINGS;");
        CradleTreaty x = Check.told(figures(3) + FOUR + moves("ab0 bc1 bc0 ac1", 0));
        due("v, then u", 2, x.way(1, 2));
        lie(x, 0, 1);
        due("w at once", 1, x.way(2, 2));
        lie(x, 3);
        due("w can't by 0", -1, x.way(2, 1));
        x = Check.told(figures(3) + FOUR + moves("ab0 bc0", 0) + "tribe y skill 0 stiff 0;");
        x.give(4);
        due("y, who holds it, can't go on", -1, x.way(1, 2));
        // Round the seven once, as it is v's turn at g; the second time it is u's.
        String ring = figures(8) + "tribe u skill 0;tribe v skill 0 stiff 1;"
                + moves("ab0 bc0 cd0 de0 ef0 fg0 ga0 gh1", 0);
        x = Check.told(ring);
        due("the longest there is", 14, x.way(1, 7));
        lie(x, 0, 1, 2, 3, 4, 5, 6, 0, 1, 2, 3, 4, 5, 7);
        due("to g", 6, x.way(1, 6));
        x.give(1);
        due("u at once", 7, x.way(0, 7));
        lie(x, 0, 1, 2, 3, 4, 5, 7);
    }

    private static void firstWays() {
        says(TERMS, "of like ones the first (MOVE by MOVE, by numbers).");
        CradleTreaty x = Check.told(figures(4) + PAIR + moves("ac0 ab0 cd0 bd0 ac1 bd1", 0));
        due("by c or b", 2, x.way(1, 3));
        lie(x, 0, 2);
        x = Check.told(figures(4) + PAIR + moves("bd0 cd0 ac0 ab0 ab1", 0));
        due("the first move counts more", 2, x.way(1, 3));
        lie(x, 2, 1);
        x = Check.told(figures(4) + PAIR + moves("ab0 bc0 cd0 ad0", 0));
        due("fewer ones go ahead", 1, x.way(1, 3));
        lie(x, 3);
    }

    private static void surestOdds() {
        says(TERMS, "SUREST likewise: that of at most 4 TAKINGS by which the odds that none slips are most (0 too);");
        String chain = figures(6) + PAIR + moves("ab0 bc0 cd0 de0 ef0", 0);
        CradleTreaty x = Check.told(chain + "slip 99;");
        due("four", 1, x.surest(1, 4, 0));
        lie(x, 0, 1, 2, 3);
        due("of", 100000000, x.surest(1, 4, 1));
        due("five", -1, x.surest(1, 5, 0));
        lie(x);
        due("the way has five", 5, x.way(1, 5));
        x = Check.told(chain + "slip 1;");
        due("four", 96059601, x.surest(1, 4, 0));
        due("of", 100000000, x.surest(1, 4, 1));
        x = Check.told(chain + "slip 100;");
        due("0 too", 0, x.surest(1, 4, 0));
        lie(x, 0, 1, 2, 3);
        due("of", 1, x.surest(1, 4, 1));
        due("0 too", 0, x.surest(1, 1, 0));
        x = Check.told(chain + "slip 0;");
        due("for sure", 1, x.surest(1, 4, 0));
        due("of", 1, x.surest(1, 4, 1));
        // Straight on slips 60 times of 100; four takings of 20 slip less: 4096 of 10000.
        String longer = figures(5) + PAIR + "move a e finger 0 hard 6;" + moves("ab0 bc0 cd0 de0", 2);
        x = Check.told(longer + "slip hard*10;");
        due("the longer one", 256, x.surest(1, 4, 0));
        lie(x, 1, 2, 3, 4);
        due("of", 625, x.surest(1, 4, 1));
        x = Check.told(longer + "slip hard*10-(hard=6);");
        due("59 of 100 slip: still less", 41, x.surest(1, 4, 0));
        lie(x, 0);
        due("of", 100, x.surest(1, 4, 1));
        // u, who is skilled, would slip less: but the turns are as they are.
        x = Check.told(figures(3) + "tribe u skill 9;tribe v skill 1;" + moves("ab0 bc0", 5));
        due("55 of 100 by v, 95 by u", 209, x.surest(1, 2, 0));
        due("of", 400, x.surest(1, 2, 1));
        x.rain();
        x.give(1);
        due("95 by u first, 55 by v", 209, x.surest(0, 2, 0));
        due("to b", 19, x.surest(0, 1, 0));
        due("of", 20, x.surest(0, 1, 1));
    }

    private static void surestOfLikeOnes() {
        says(TERMS, "of like ones the fewest, then the first.");
        // 50 of 100 twice, or 25 of 100 at once.
        CradleTreaty x = Check.told(figures(3) + PAIR + moves("ab0 bc0", 5) + "move a c finger 0 hard 9;"
                + "slip (hard=5)*50+(hard=9)*75;");
        due("a quarter", 1, x.surest(1, 2, 0));
        lie(x, 2);
        due("of", 4, x.surest(1, 2, 1));
        // 50 and 80 of 100, or 80 and 50.
        x = Check.told(figures(4) + PAIR + "move b d finger 0 hard 2;move a c finger 0 hard 2;"
                + "move a b finger 0 hard 5;move c d finger 0 hard 5;slip hard*10;");
        due("two fifths", 2, x.surest(1, 3, 0));
        lie(x, 1, 3);
        // All slip for sure once: then any other will do.
        x = Check.told(figures(4) + PAIR + "move a b finger 0 hard 1;move b c finger 0 hard 1;"
                + "move b c finger 0 hard 0;move c d finger 0 hard 1;move c d finger 0 hard 0;slip hard*100;");
        due("0 too", 0, x.surest(1, 3, 0));
        lie(x, 0, 1, 3);
        x = Check.told(TWO + moves("ab0 ab0 aa0", 0) + "slip 0;");
        due("the first of two, at once", 1, x.surest(1, 1, 0));
        lie(x, 0);
        due("there: no taking", 1, x.surest(1, 0, 0));
        lie(x);
    }

    private static void makesByHands() {
        says(TERMS, "MAKES of a set of TRIBES: FIGURES that can come by TAKINGS of these "
                + "(the HOLDER, too, whether it is of them or not).");
        CradleTreaty x = Check.told(figures(4) + FOUR + moves("ab0 bc1 cd0", 0));
        due("nobody but the holder", 1, x.makes(0));
        due("the holder alone", 1, x.makes(1));
        due("w can't begin", 1, x.makes(4));
        due("v, u, v", 15, x.makes(2));
        due("v, u, v", 15, x.makes(3));
        x = Check.told(figures(4) + FOUR.replace("u skill 0", "u skill 0 stiff 0 stiff 1") + moves("ab0 bc1 cd0", 0));
        due("v, who can't take it from itself", 3, x.makes(2));
        due("v, w, v", 15, x.makes(6));
        due("x alone", 3, x.makes(8));
        due("x, w, x", 15, x.makes(12));
        due("v, x, v", 15, x.makes(10));
        x = Check.told(figures(8) + "tribe u skill 0;tribe v skill 0 stiff 1;"
                + moves("ab0 bc0 cd0 de0 ef0 fg0 ga0 gh1", 0));
        due("the longest there is", 255, x.makes(2));
    }

    private static void handsOfLikeOnes() {
        says(TERMS, "HANDS for a FIGURE: the fewest TRIBES besides the HOLDER by which it can come "
                + "(so MAKES has it); of like ones the least set as bits.");
        String idleHolder = FOUR.replace("u skill 0", "u skill 0 stiff 0 stiff 1");
        CradleTreaty x = Check.told(figures(4) + idleHolder + moves("ab0 bc1 ad1", 0));
        due("v, x alike", 2, x.hands(1, 1));
        due("one", 1, x.hands(1, 0));
        due("w, x alike", 4, x.hands(3, 1));
        due("two", 2, x.hands(2, 0));
        due("v and w, v and x, w and x alike", 6, x.hands(2, 1));
        // v and w are a lesser set than x, but two.
        x = Check.told(figures(3) + "tribe u skill 0 stiff 0 stiff 1 stiff 2;tribe v skill 0 stiff 1 stiff 2;"
                + "tribe w skill 0 stiff 0 stiff 2;tribe x skill 0 stiff 0 stiff 1;" + moves("ab0 bc1 ac2", 0));
        due("one", 1, x.hands(2, 0));
        due("x", 8, x.hands(2, 1));
        x.give(3);
        due("besides x", 2, x.hands(2, 0));
        due("v and w", 6, x.hands(2, 1));
        x.give(1);
        due("besides v", 8, x.hands(2, 1));
    }

    private static void deals() {
        says(TERMS, "DEAL of n with another TRIBE: both by turns, the other one first, n TAKINGS at most:");
        String text = figures(3) + PAIR + moves("ab0 bc0", 0) + "worth v b 5;worth v c 4;worth u c 9;";
        CradleTreaty x = Check.told(text);
        due("none", 0, x.deal(1, 0));
        due("v takes b", 1, x.deal(1, 1));
        due("u takes c then, still better for v", 2, x.deal(1, 2));
        due("no more can be", 2, x.deal(1, 8));
        x.give(1);
        due("u first, for whom b is nothing", 0, x.deal(0, 1));
        due("v would leave b", 0, x.deal(0, 2));
        // c is left by u at its turn alone, the sixth; then come d, e, f.
        x = Check.told(figures(6) + "tribe u skill 0;tribe v skill 0 stiff 1;"
                + moves("ab0 bc0 ca0 cd1 de0 ef0", 0) + "worth u f 1;worth v f 1;");
        for (int n = 0; n <= 7; n++) {
            due("fewer than eight are not enough", 0, x.deal(1, n));
        }
        due("eight are", 5, x.deal(1, 8));
        says(TERMS, "each leaves it as it is (then it is settled), or does a MOVE, "
                + "so that the FIGURE settled on in the end is worth most to it;");
        x = Check.told(figures(3) + PAIR + moves("ab0 bc0", 0) + "worth v a 3;worth v b 5;worth u c 9;");
        due("v takes b", 1, x.deal(1, 1));
        due("v leaves a, as u would not leave b", 0, x.deal(1, 2));
        x = Check.told(figures(3) + PAIR + moves("ab0 bc0", 0) + "worth v c 5;worth u b 9;");
        due("settled as it is left: u would leave b", 0, x.deal(1, 8));
        x = Check.told(figures(3) + FOUR + moves("ab0 ac1", 0) + "worth v b 1;worth v c 9;worth w b 9;worth w c 1;");
        due("v can by 0 alone", 1, x.deal(1, 1));
        due("w can by 1 alone", 2, x.deal(2, 1));
    }

    private static void dealsOfLikeOnes() {
        says(TERMS, "of like ones it leaves it, then the first MOVE.");
        CradleTreaty x = Check.told(figures(3) + PAIR + moves("ab0 ac0", 0));
        due("all alike: left", 0, x.deal(1, 8));
        x = Check.told(figures(3) + PAIR + moves("ab0 ac0", 0) + "worth v a 5;worth v b 5;worth v c 5;");
        due("all alike: left", 0, x.deal(1, 1));
        x = Check.told(figures(3) + PAIR + moves("ac0 ab0", 0) + "worth v b 5;worth v c 5;");
        due("the first move", 2, x.deal(1, 1));
        x = Check.told(figures(3) + PAIR + moves("ab0 ac0", 0) + "worth v b 5;worth v c 6;");
        due("the better one", 2, x.deal(1, 1));
        // By b it comes to c, by c to b: alike to v, so it is the first move that counts.
        x = Check.told(figures(3) + PAIR + moves("ab0 ac0 bc0 cb0", 0) + "worth v b 5;worth v c 5;worth u c 1;");
        due("by b", 2, x.deal(1, 2));
    }

    private static void fairAndGood() {
        says(TERMS, "FAIR: the FIGURE of which the least worth to any TRIBE is most;");
        CradleTreaty x = Check.told(figures(3) + PAIR + "worth u a 99;worth u b 1;worth v b 1;worth v c 99;");
        due("b", 1, x.fair());
        x = Check.told(figures(2) + "tribe u skill 0;worth u b 1;");
        due("of one tribe", 1, x.fair());
        says(TERMS, "of like ones that of most worth to all together, then the first.");
        x = Check.told(figures(4) + PAIR + "worth u a 1;worth v a 1;worth u b 1;worth v b 4;worth u c 4;worth v c 1;"
                + "worth u d 0;worth v d 99;");
        due("most together, the first", 1, x.fair());
        due("all alike", 0, Check.told(figures(8) + PAIR).fair());
        says(TERMS, "GOOD: FIGURES of which no other one is worth as much to each TRIBE, and more to some.");
        x = Check.told(figures(4) + PAIR + "worth u a 2;worth v a 2;worth u b 2;worth v b 3;worth u c 3;worth v c 2;"
                + "worth u d 2;worth v d 3;");
        due("a is less than b, c and d; b and d are alike", 14, x.good());
        x = Check.told(figures(2) + PAIR + "worth u a 3;worth v a 2;worth u b 2;worth v b 2;");
        due("a is more to u, as much to v", 1, x.good());
        x = Check.told(figures(2) + PAIR + "worth u a 2;worth v a 2;worth u b 2;worth v b 3;");
        due("b is as much to u, more to v", 2, x.good());
        x = Check.told(figures(2) + PAIR + "worth u a 9;worth v a 2;worth u b 2;worth v b 3;");
        due("each is more to one", 3, x.good());
        due("all alike", 255, Check.told(figures(8) + PAIR).good());
        due("one", 1, Check.told("figure a;" + PAIR).good());
    }

    private static void roundsAndMirrors() {
        says(TERMS, "ROUND of a FIGURE: the fewest MOVES, each of which some TRIBE CAN do, "
                + "by which it comes to itself again.");
        CradleTreaty x = Check.told(figures(8) + "tribe u skill 0 stiff 1;"
                + moves("ab0 bc0 cd0 de0 ef0 fg0 gh0 ha0 aa1 ba1 db0", 0));
        due("all eight", 8, x.round(0));
        due("the shorter one", 3, x.round(1));
        due("the shorter one", 3, x.round(3));
        due("all eight", 8, x.round(7));
        x = Check.told(figures(2) + "tribe u skill 0;tribe v skill 0 stiff 0;" + moves("ab0 ba0", 0));
        due("by one that can", 2, x.round(0));
        x = Check.told(figures(2) + "tribe v skill 0 stiff 0;tribe u skill 0 stiff 1;" + moves("ab0 ba1", 0));
        due("each by another", 2, x.round(0));
        says(TERMS, "WILL: what a TRIBE has behind n NIGHTS, if nobody takes it (beyond day 999, too).");
        // More than the 512 calls of one object, for which alone the document speaks.
        x = Check.told("figure a;tribe t skill 0;worth t a 99;");
        for (int night = 0; night < 999; night++) {
            x.night();
        }
        due("day", 999, x.about(9));
        due("no night more can be", -1, x.night());
        due("but will be", 1059 * 99, x.will(0, 60));
        says(TERMS, "MIRROR of a TRIBE: how many MOVES more it CAN do, if it mirrored, or did not any more.");
        String low = " stiff 0 stiff 1 stiff 2 stiff 3 stiff 4";
        String all = "figure a;tribe u skill 0" + low + ";tribe v skill 0" + low + " mirrors;";
        x = Check.told(all + moves("aa0 ".repeat(16), 0));
        due("all more", 16, x.mirror(0));
        due("all fewer", -16, x.mirror(1));
        x = Check.told(all + moves("aa9 ".repeat(16), 0));
        due("all fewer", -16, x.mirror(0));
        due("all more", 16, x.mirror(1));
        x = Check.told(all + moves("aa4 aa5 aa9", 0));
        due("one for two", -1, x.mirror(0));
        due("two for one", 1, x.mirror(1));
    }

    private static void way() {
        says("Promise 16", "WAY: how many TAKINGS");
        CradleTreaty x = Check.told(WAYS);
        due("one", 1, x.way(1, 1));
        due("two", 2, x.way(1, 2));
        says("Promise 16", "(0: it is there);");
        due("there", 0, x.way(1, 0));
        lie(x);
        due("there, though w can't take it", 0, x.way(2, 0));
        says("Promise 16", "NONE if there is none, the other one is the HOLDER, or one can't be.");
        due("none", -1, x.way(1, 3));
        due("none", -1, x.way(2, 1));
        due("the holder", -1, x.way(0, 1));
        due("the holder, it is there", -1, x.way(0, 0));
        due("no tribe", -1, x.way(4, 0));
        due("no figure", -1, x.way(1, 4));
        for (int wrong : FAR_NUMBERS) {
            due("no tribe", -1, x.way(wrong, 0));
            due("no figure", -1, x.way(1, wrong));
        }
        due("without tribes", -1, Check.told("figure a;").way(0, 0));
        due("without tribes", -1, Check.told("figure a;").way(-1, 0));
        due("without figures", -1, Check.told(PAIR).way(1, 0));
        says("Promise 16", "The MOVES lie there then (behind NONE: nothing).");
        int[][] refused = {{1, 3}, {0, 1}, {4, 1}, {-1, 1}, {1, 4}, {1, -1}, {2, 1}};
        for (int[] one : refused) {
            due("way", 2, x.way(1, 2));
            lie(x, 0, 1);
            due("refused", -1, x.way(one[0], one[1]));
            lie(x);
        }
    }

    private static void surest() {
        says("Promise 17", "SUREST the upper part (0), the lower part (1), in lowest terms (0 of 1);");
        int[][] slipUpperLower = {{0, 1, 1}, {1, 99, 100}, {2, 49, 50}, {20, 4, 5}, {25, 3, 4}, {50, 1, 2},
            {60, 2, 5}, {75, 1, 4}, {99, 1, 100}, {100, 0, 1}};
        for (int[] row : slipUpperLower) {
            CradleTreaty x = Check.told(TWO + moves("ab0", 0) + "slip " + row[0] + ";");
            due("upper by slip " + row[0], row[1], x.surest(1, 1, 0));
            due("lower by slip " + row[0], row[2], x.surest(1, 1, 1));
        }
        CradleTreaty x = Check.told(WAYS);
        due("there", 1, x.surest(1, 0, 0));
        due("there", 1, x.surest(1, 0, 1));
        says("Promise 17", "NONE if there is no way of so few, the other one is the HOLDER, or one can't be.");
        for (int part = 0; part <= 1; part++) {
            due("no way", -1, x.surest(1, 3, part));
            due("the holder", -1, x.surest(0, 1, part));
            due("the holder, it is there", -1, x.surest(0, 0, part));
            due("no tribe", -1, x.surest(4, 0, part));
            due("no figure", -1, x.surest(1, 4, part));
            for (int wrong : FAR_NUMBERS) {
                due("no tribe", -1, x.surest(wrong, 0, part));
                due("no figure", -1, x.surest(1, wrong, part));
                due("no part", -1, x.surest(1, 1, wrong));
            }
        }
        due("no part", -1, x.surest(1, 1, 2));
        CradleTreaty five = Check.told(figures(6) + PAIR + moves("ab0 bc0 cd0 de0 ef0", 0));
        due("five are no way of so few", -1, five.surest(1, 5, 0));
        due("five are no way of so few", -1, five.surest(1, 5, 1));
        due("without tribes", -1, Check.told("figure a;").surest(-1, 0, 0));
        due("without figures", -1, Check.told(PAIR).surest(1, 0, 0));
        says("Promise 17", "The MOVES lie there then (behind NONE: nothing).");
        int[][] refused = {{1, 3, 0}, {0, 1, 0}, {4, 1, 1}, {-1, 1, 0}, {1, 4, 0}, {1, -1, 0}, {2, 1, 1}};
        for (int part = 0; part <= 1; part++) {
            for (int[] one : refused) {
                x = Check.told(WAYS);
                due("surest", 1, x.surest(1, 2, part));
                lie(x, 0, 1);
                due("refused", -1, x.surest(one[0], one[1], one[2]));
                lie(x);
            }
        }
    }

    private static void makes() {
        says("Promise 18", "MAKES (TRIBES as bits), the FIGURE that is there, too, as bits;");
        CradleTreaty x = Check.told(WAYS);
        due("there", 1, x.makes(0));
        due("v, u", 7, x.makes(2));
        due("all", 7, x.makes(15));
        due("without figures", 0, Check.told(PAIR).makes(3));
        due("without tribes", 1, Check.told("figure a;move a a finger 0 hard 0;").makes(0));
        says("Promise 18", "NONE if one can't be.");
        due("a fifth of four", -1, x.makes(16));
        due("a fifth of four, with others", -1, x.makes(31));
        for (int wrong : FAR_NUMBERS) {
            due("no such", -1, x.makes(wrong));
        }
        due("without tribes", -1, Check.told("figure a;").makes(1));
        String five = "figure a;" + FOUR + "tribe y skill 0;";
        due("all five", 1, Check.told(five).makes(31));
        due("a sixth of five", -1, Check.told(five).makes(32));
        due("all sets", -1, Check.told(five).makes(-1));
    }

    private static void hands() {
        says("Promise 19", "HANDS what 0: how many, 1: which, as bits;");
        CradleTreaty x = Check.told(WAYS);
        due("there: none", 0, x.hands(0, 0));
        due("there: none", 0, x.hands(0, 1));
        due("v with u", 1, x.hands(2, 0));
        due("v", 2, x.hands(2, 1));
        says("Promise 19", "NONE if all are not enough, or one can't be.");
        due("not enough", -1, x.hands(3, 0));
        due("not enough", -1, x.hands(3, 1));
        due("no figure", -1, x.hands(4, 0));
        due("of what", -1, x.hands(0, 2));
        for (int wrong : FAR_NUMBERS) {
            due("no figure", -1, x.hands(wrong, 0));
            due("of what", -1, x.hands(0, wrong));
        }
        due("without tribes, there", 0, Check.told(figures(2)).hands(0, 0));
        due("without tribes", -1, Check.told(figures(2) + moves("ab0", 0)).hands(1, 0));
        due("without figures", -1, Check.told(PAIR).hands(0, 0));
    }

    private static void deal() {
        says("Promise 20", "DEAL (n 0 .. 8): the FIGURE;");
        CradleTreaty x = Check.told(WAYS + "worth v b 1;");
        due("0", 0, x.deal(1, 0));
        due("1", 1, x.deal(1, 1));
        due("8", 1, x.deal(1, 8));
        due("0 again", 0, x.deal(1, 0));
        says("Promise 20", "NONE if the other one is the HOLDER, or one can't be.");
        due("the holder", -1, x.deal(0, 1));
        due("the holder", -1, x.deal(0, 0));
        due("no tribe", -1, x.deal(4, 0));
        due("n 9", -1, x.deal(1, 9));
        for (int wrong : FAR_NUMBERS) {
            due("no tribe", -1, x.deal(wrong, 0));
            due("n", -1, x.deal(1, wrong));
        }
        due("without tribes", -1, Check.told("figure a;").deal(-1, 0));
        due("without figures", -1, Check.told(PAIR).deal(1, 0));
    }

    private static void fair() {
        says("Promise 21", "FAIR; NONE without FIGURES (0 without TRIBES).");
        due("without figures", -1, Check.told(PAIR).fair());
        due("without anything", -1, new CradleTreaty().fair());
        due("without tribes", 0, Check.told("figure a;").fair());
        due("without tribes", 0, Check.told(figures(8)).fair());
        due("the last of eight", 7, Check.told(figures(8) + "tribe t skill 0;worth t h 1;").fair());
    }

    private static void good() {
        says("Promise 22", "GOOD, as bits.");
        due("without figures", 0, Check.told(PAIR).good());
        due("without tribes", 255, Check.told(figures(8)).good());
        due("the last of eight", 128, Check.told(figures(8) + "tribe t skill 0;worth t h 1;").good());
    }

    private static void round() {
        says("Promise 23", "how many MOVES (1 at least);");
        CradleTreaty x = Check.told(figures(4) + "tribe t skill 0 stiff 1;" + moves("aa0 bc0 cb0 dd1", 0));
        due("to itself", 1, x.round(0));
        due("there and back", 2, x.round(1));
        says("Promise 23", "NONE if there is none, or no such FIGURE.");
        due("nobody can", -1, x.round(3));
        due("no figure", -1, x.round(4));
        for (int wrong : FAR_NUMBERS) {
            due("no figure", -1, x.round(wrong));
        }
        due("none", -1, Check.told(figures(2) + PAIR + moves("ab0", 0)).round(0));
        due("without tribes", -1, Check.told("figure a;move a a finger 0 hard 0;").round(0));
        due("without figures", -1, new CradleTreaty().round(0));
        due("not by a wrong one", -1, Check.told(TWO + "move a b finger 0 hard 0 wrong a;").round(0));
    }

    private static void near() {
        says("Promise 24", "FIGURES that can come behind n MOVES (0 .. 8), each of which some TRIBE CAN do");
        CradleTreaty x = Check.told(figures(8) + "tribe u skill 0 stiff 1;"
                + moves("ab0 bc0 cd0 de0 ef0 fg0 gh0 ha0 ad1", 0));
        for (int n = 0; n <= 7; n++) {
            due("n " + n, 1 << n, x.near(n));
        }
        due("round again", 1, x.near(8));
        due("one may do all", 2, x.near(1));
        due("nobody", 0, Check.told(figures(2) + moves("ab0", 0)).near(1));
        due("no way on", 0, Check.told(TWO + moves("ab0", 0)).near(2));
        due("u can", 2, Check.told(figures(2) + "tribe u skill 0;tribe v skill 0 stiff 0;" + moves("ab0", 0)).near(1));
        due("all of it", 3, Check.told(TWO + moves("aa0 ab0", 0)).near(8));
        says("Promise 24", "(0: the one that is there), as bits;");
        x.take(0, 0);
        due("the holder can't take it", 1, x.near(0));
        CradleTreaty y = Check.told(TWO + moves("ab0", 0));
        y.take(1, 0);
        due("b", 2, y.near(0));
        due("without tribes", 1, Check.told("figure a;").near(0));
        due("without figures", 0, Check.told(PAIR).near(0));
        says("Promise 24", "NONE for another n.");
        due("9", -1, x.near(9));
        for (int wrong : FAR_NUMBERS) {
            due("near " + wrong, -1, x.near(wrong));
        }
        due("without figures", -1, new CradleTreaty().near(9));
        due("without figures", -1, new CradleTreaty().near(-1));
    }

    private static void both() {
        says("Promise 25", "MOVES that both TRIBES CAN do, as bits; NONE if one can't be.");
        CradleTreaty x = Check.told(WAYS);
        due("v and w", 0, x.both(1, 2));
        due("u and v", 5, x.both(0, 1));
        due("w and w", 2, x.both(2, 2));
        due("sixteen", 65535, Check.told(TWO + moves("aa0 ".repeat(16), 0)).both(0, 1));
        due("no tribe", -1, x.both(0, 4));
        due("no tribe", -1, x.both(4, 0));
        for (int wrong : FAR_NUMBERS) {
            due("no tribe", -1, x.both(wrong, 0));
            due("no tribe", -1, x.both(0, wrong));
            due("neither", -1, x.both(wrong, wrong));
        }
        due("without tribes", -1, Check.told("figure a;").both(0, 0));
    }

    private static void clumsy() {
        says("Promise 26", "The TRIBE of the greatest SLIP by a MOVE, of those that CAN do it; "
                + "of like ones the first;");
        String text = "figure a;tribe u skill 5;tribe v skill 0 stiff 1;tribe w skill 3;tribe x skill 3;";
        CradleTreaty x = Check.told(text + moves("aa0 aa1", 5));
        due("v", 1, x.clumsy(0));
        due("v can't; w and x alike", 2, x.clumsy(1));
        due("all 0", 0, Check.told(text + moves("aa0", 0)).clumsy(0));
        due("all 100", 0, Check.told(text + moves("aa0", 0) + "slip 100;").clumsy(0));
        says("Promise 26", "NONE if none CAN, or there is none such.");
        CradleTreaty y = Check.told("figure a;tribe t skill 0 stiff 1;" + moves("aa1", 5));
        due("none can", -1, y.clumsy(0));
        due("without tribes", -1, Check.told("figure a;" + moves("aa1", 5)).clumsy(0));
        due("no move", -1, x.clumsy(2));
        for (int wrong : FAR_NUMBERS) {
            due("no move", -1, x.clumsy(wrong));
        }
    }

    private static void idle() {
        says("Promise 27", "TRIBES but the HOLDER that CAN do no MOVE from the FIGURE that is there, as bits.");
        CradleTreaty x = Check.told(WAYS + "slip 0;");
        due("w", 4, x.idle());
        x.give(2);
        due("w holds it", 0, x.idle());
        x.take(1, 0);
        due("v holds b", 0, x.idle());
        x.give(0);
        due("v can't by 1", 2, x.idle());
        x.take(3, 1);
        due("none from c", 7, x.idle());
        due("none but the holder", 0, Check.told("figure a;tribe t skill 0;").idle());
        due("without moves", 30, Check.told("figure a;" + FOUR + "tribe y skill 0;").idle());
        due("without figures", 2, Check.told(PAIR).idle());
        due("without tribes", 0, Check.told("figure a;").idle());
    }

    private static void ends() {
        says("Promise 28", "FIGURES from which no TRIBE CAN do any MOVE, as bits.");
        due("c", 4, Check.told(WAYS).ends());
        due("nobody can by 1", 6, Check.told(figures(3) + "tribe t skill 0 stiff 1;" + moves("ab0 bc1", 0)).ends());
        due("by itself", 2, Check.told(TWO + moves("aa0", 0)).ends());
        due("u can", 2, Check.told(figures(2) + "tribe u skill 0;tribe v skill 0 stiff 0;" + moves("ab0", 0)).ends());
        due("without tribes", 3, Check.told(figures(2) + moves("ab0 ba0", 0)).ends());
        due("without moves", 255, Check.told(figures(8) + PAIR).ends());
        due("without figures", 0, Check.told(PAIR).ends());
    }

    private static void sources() {
        says("Promise 29", "FIGURES to which no MOVE, no wrong one, of another FIGURE leads, as bits.");
        due("a, and d by its own alone", 9, Check.told(WAYS).sources());
        due("a wrong one leads to c", 1, Check.told(figures(3) + "move a b finger 0 hard 0 wrong c;").sources());
        due("a wrong one of its own", 3, Check.told(figures(3) + "move b c finger 0 hard 0 wrong b;").sources());
        due("whether one can or not", 1,
                Check.told(figures(2) + "tribe t skill 0 stiff 1;" + moves("ab1", 0)).sources());
        due("all round", 0, Check.told(figures(2) + moves("ab0 ba0", 0)).sources());
        due("without moves", 255, Check.told(figures(8)).sources());
        due("without figures", 0, Check.told(PAIR).sources());
    }

    private static void will() {
        says("Promise 30", "WILL (n 0 .. 60);");
        CradleTreaty x = Check.told(figures(2) + PAIR + moves("ab0", 0) + "worth u a 1;worth u b 10;cord 3;slip 0;");
        due("now", 0, x.will(0, 0));
        due("60", 60, x.will(0, 60));
        x.take(1, 0);
        due("b once", 10, x.will(0, 1));
        due("b three times", 30, x.will(0, 3));
        due("then a", 31, x.will(0, 4));
        due("60", 87, x.will(0, 60));
        x.night();
        due("now", 10, x.will(0, 0));
        due("two more", 30, x.will(0, 2));
        due("then a", 31, x.will(0, 3));
        due("v", 0, x.will(1, 60));
        for (int n = 0; n < 60; n++) {
            int will = x.will(0, 1);
            x.night();
            due("so it comes", will, x.tribe(0, 3));
        }
        due("without figures", 0, Check.told(PAIR).will(1, 60));
        due("worn out each night", 10 + 59, willByCordOne());
        says("Promise 30", "NONE if one can't be.");
        due("n 61", -1, x.will(0, 61));
        due("no tribe", -1, x.will(2, 0));
        for (int wrong : FAR_NUMBERS) {
            due("n", -1, x.will(0, wrong));
            due("no tribe", -1, x.will(wrong, 0));
        }
        due("without tribes", -1, Check.told("figure a;").will(0, 0));
    }

    private static int willByCordOne() {
        CradleTreaty x = Check.told(figures(2) + PAIR + moves("ab0", 0) + "worth u a 1;worth u b 10;cord 1;slip 0;");
        x.take(1, 0);
        return x.will(0, 60);
    }

    private static void mirror() {
        says("Promise 31", "MIRROR (it may be below 0); -100 if there is none such.");
        CradleTreaty x = Check.told("figure a;tribe t skill 0 stiff 9;tribe u skill 0;" + moves("aa0 aa1", 0));
        due("below 0", -1, x.mirror(0));
        due("the same", 0, x.mirror(1));
        due("no tribe", -100, x.mirror(2));
        for (int wrong : FAR_NUMBERS) {
            due("no tribe", -100, x.mirror(wrong));
        }
        due("without tribes", -100, Check.told("figure a;").mirror(0));
        due("without moves", 0, Check.told("tribe t skill 0 stiff 9;").mirror(0));
    }

    private static void lies() {
        says("Promise 32", "The i-th number of what lies there; NONE if there is none such.");
        CradleTreaty x = Check.told(WAYS);
        due("nothing", -1, x.lies(0));
        x.way(1, 2);
        due("from 0 on", 0, x.lies(0));
        due("the last", 1, x.lies(1));
        due("none", -1, x.lies(2));
        for (int wrong : FAR_NUMBERS) {
            due("none", -1, x.lies(wrong));
        }
        x.rain();
        x.makes(1);
        x.give(1);
        due("it stays till another way", 1, x.lies(1));
    }
}
