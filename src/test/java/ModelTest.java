import java.util.ArrayList;
import java.util.List;
import java.util.Random;

/** Chance runs (always the same ones) of calls on the class and on the model side by side. */
public final class ModelTest {
    private static final int RUNS = 1500;
    private static final int CALLS = 300;
    private static final Check CHECK = new Check("ModelTest");
    private static final String[] SCRAPS = {"figure", "tribe", "skill", "stiff", "mirrors", "move",
        "finger", "hard", "wrong", "worth", "slip", "cord", "draw", "or", "and", "not", "worn", "wet",
        "day", ";", "(", ")", "<", ">", "=", "+", "-", "*", "/", "%", "0", "1", "9", "10", "100", "0007",
        "99999", "a", "b", "t", "abcdefghi", "$", " ", "\n", "A"};

    private final Random chance;
    private final CradleTreaty x = new CradleTreaty();
    private final Model model = new Model();
    private int left = CALLS;
    private String told = "";

    private ModelTest(int run) {
        chance = new Random(run);
    }

    public static void main(String[] args) {
        for (int run = 0; run < RUNS && CHECK.wrongs() < 20; run++) {
            new ModelTest(run).go();
        }
        CHECK.finish();
    }

    private void due(String call, long want, long got) {
        left--;
        CHECK.due(told + " .. " + call, want, got);
    }

    private void go() {
        while (left > 0) {
            tell();
            int calls = 10 + chance.nextInt(120);
            for (int i = 0; i < calls && left > 0; i++) {
                call();
            }
        }
    }

    // ---- Texts

    private void tell() {
        String text = treaty();
        if (chance.nextInt(3) == 0) {
            text = spoil(text);
        }
        if (text.length() > 1600) {
            text = text.substring(0, 1600);
        }
        byte[] bytes = Check.bytes(text);
        for (int at = 0; at < bytes.length; at += 20) {
            byte[] twenty = new byte[20];
            System.arraycopy(bytes, at, twenty, 0, Math.min(20, bytes.length - at));
            model.feed(twenty);
        }
        Check.feed(x, bytes);
        model.end(bytes.length);
        told = text;
        due("treaty", model.treaty(), x.treaty());
        due("fault", model.fault(0), x.fault(0));
        due("place", model.fault(1), x.fault(1));
    }

    private String treaty() {
        List<String> first = new ArrayList<>();
        List<String> then = new ArrayList<>();
        int figures = chance.nextInt(9);
        int tribes = chance.nextInt(6);
        for (int i = 0; i < figures; i++) {
            first.add("figure " + (char) ('a' + i) + ";");
        }
        for (int i = 0; i < tribes; i++) {
            StringBuilder line = new StringBuilder("tribe " + (char) ('p' + i) + " skill "
                    + chance.nextInt(10));
            for (int finger = 0; finger < 10; finger++) {
                line.append(chance.nextInt(4) == 0 ? " stiff " + finger : "");
            }
            first.add(line + (chance.nextInt(3) == 0 ? " mirrors;" : ";"));
        }
        int moves = figures == 0 ? 0 : chance.nextInt(Math.min(17, 3 + 4 * figures));
        for (int i = 0; i < moves; i++) {
            then.add("move " + figure(figures) + " " + figure(figures) + " finger " + chance.nextInt(10)
                    + " hard " + chance.nextInt(10)
                    + (chance.nextInt(3) == 0 ? " wrong " + figure(figures) : "") + ";");
        }
        int high = chance.nextBoolean() ? 4 : 100;
        for (int tribe = 0; tribe < tribes; tribe++) {
            for (int figure = 0; figure < figures; figure++) {
                if (chance.nextInt(3) != 0) {
                    then.add("worth " + (char) ('p' + tribe) + " " + (char) ('a' + figure) + " "
                            + chance.nextInt(high) + ";");
                }
            }
        }
        if (chance.nextInt(2) == 0) {
            then.add("slip " + formula(0) + ";");
        }
        if (chance.nextInt(2) == 0) {
            then.add("cord " + (1 + chance.nextInt(chance.nextInt(4) == 0 ? 99 : 5)) + ";");
        }
        if (chance.nextInt(2) == 0) {
            then.add("draw " + chance.nextInt(1000) + ";");
        }
        java.util.Collections.shuffle(then, chance);
        return String.join("", first) + String.join("", then);
    }

    private char figure(int figures) {
        return (char) ('a' + chance.nextInt(figures));
    }

    private String formula(int depth) {
        int sort = chance.nextInt(depth > 3 ? 6 : 13);
        if (sort == 0) {
            return "" + chance.nextInt(chance.nextInt(3) == 0 ? 10000 : 60);
        }
        if (sort < 6) {
            return new String[] {"hard", "skill", "worn", "wet", "day"}[sort - 1];
        }
        String left = formula(depth + 1);
        String right = formula(depth + 1);
        if (sort == 6) {
            return chance.nextBoolean() ? "not " + left : "(" + left + ")";
        }
        if (sort == 7) {
            return left + (chance.nextBoolean() ? " and " : " or ") + right;
        }
        if (sort == 8) {
            return "(" + left + ")" + "<>=".charAt(chance.nextInt(3)) + "(" + right + ")";
        }
        return "(" + left + ")" + "+-*/%".charAt(chance.nextInt(5)) + right;
    }

    private String spoil(String text) {
        String spoilt = text;
        int times = 1 + chance.nextInt(3);
        for (int i = 0; i < times; i++) {
            int from = chance.nextInt(spoilt.length() + 1);
            int to = Math.min(spoilt.length(), from + chance.nextInt(4));
            String scrap = chance.nextInt(4) == 0 ? "" : SCRAPS[chance.nextInt(SCRAPS.length)];
            String blank = chance.nextBoolean() ? " " : "";
            spoilt = spoilt.substring(0, from) + blank + scrap + blank + spoilt.substring(to);
        }
        return spoilt;
    }

    // ---- Calls

    /** A number of 0 to most, seldom one beside, seldom one far off. */
    private int upTo(int most) {
        int sort = chance.nextInt(40);
        return sort == 0 ? chance.nextInt() : sort < 4 ? -1 - chance.nextInt(2)
                : sort < 7 ? most + 1 + chance.nextInt(2) : chance.nextInt(most + 1);
    }

    private void call() {
        int sort = chance.nextInt(40);
        if (sort < 12) {
            callAct(sort);
        } else if (sort < 28) {
            callQuestion(sort);
        } else {
            callOther(sort);
        }
    }

    private void callAct(int sort) {
        int tribe = upTo(4);
        if (sort < 5) {
            int here = model.tribe(tribe, 6);
            int move = here > 0 && chance.nextInt(5) > 0 ? Integer.numberOfTrailingZeros(here) : upTo(15);
            due("take " + tribe + " " + move, model.take(tribe, move), x.take(tribe, move));
        } else if (sort == 5) {
            due("rain", model.rain(), x.rain());
        } else if (sort == 6) {
            due("give " + tribe, model.give(tribe), x.give(tribe));
        } else if (sort < 10) {
            due("night", model.night(), x.night());
        } else if (sort == 10) {
            due("undo", model.undo() ? 1 : 0, x.undo() ? 1 : 0);
        } else {
            due("redo", model.redo() ? 1 : 0, x.redo() ? 1 : 0);
        }
        for (int what = 3; what <= 12; what++) {
            CHECK.due(told + " .. about " + what, model.about(what), x.about(what));
        }
    }

    private void callQuestion(int sort) {
        int tribe = upTo(4);
        int other = upTo(4);
        int figure = upTo(7);
        int move = upTo(15);
        int n = upTo(8);
        int what = upTo(1);
        switch (sort) {
            case 12 -> due("way " + tribe + " " + figure, model.way(tribe, figure), x.way(tribe, figure));
            case 13 -> due("surest " + tribe + " " + figure + " " + what,
                    model.surest(tribe, figure, what), x.surest(tribe, figure, what));
            case 14 -> due("makes " + figure * 4, model.makes(figure * 4), x.makes(figure * 4));
            case 15 -> due("hands " + figure, model.hands(figure, what), x.hands(figure, what));
            case 16 -> due("deal " + tribe + " " + n, model.deal(tribe, n), x.deal(tribe, n));
            case 17 -> due("fair", model.fair(), x.fair());
            case 18 -> due("good", model.good(), x.good());
            case 19 -> due("round " + figure, model.round(figure), x.round(figure));
            case 20 -> due("near " + n, model.near(n), x.near(n));
            case 21 -> due("both " + tribe + " " + other, model.both(tribe, other), x.both(tribe, other));
            case 22 -> due("clumsy " + move, model.clumsy(move), x.clumsy(move));
            case 23 -> due("idle", model.idle(), x.idle());
            case 24 -> due("ends", model.ends(), x.ends());
            case 25 -> due("sources", model.sources(), x.sources());
            case 26 -> {
                int nights = upTo(60);
                due("will " + tribe + " " + nights, model.will(tribe, nights), x.will(tribe, nights));
            }
            default -> due("mirror " + tribe, model.mirror(tribe), x.mirror(tribe));
        }
        for (int i = -1; i <= x.about(17); i++) {
            CHECK.due(told + " .. lies " + i + " behind " + sort, model.lies(i), x.lies(i));
        }
        CHECK.due("how many lie", model.about(17), x.about(17));
        int set = chance.nextInt(40);
        CHECK.due(told + " .. makes " + set, model.makes(set), x.makes(set));
    }

    private void callOther(int sort) {
        int tribe = upTo(4);
        int figure = upTo(7);
        int move = upTo(15);
        int n = upTo(6);
        int finger = upTo(9);
        boolean is = chance.nextInt(4) == 0;
        int k = chance.nextInt(10) == 0 ? chance.nextInt() : model.about(14) - chance.nextInt(5);
        switch (sort) {
            case 28 -> due("tribe " + tribe, model.tribe(tribe, n), x.tribe(tribe, n));
            case 29 -> due("move " + move, model.move(move, n), x.move(move, n));
            case 30 -> due("worth", model.worth(tribe, figure), x.worth(tribe, figure));
            case 31 -> due("slip " + tribe + " " + move, model.slip(tribe, move), x.slip(tribe, move));
            case 32 -> due("seen", model.seen(n, figure, is), x.seen(n, figure, is));
            case 33 -> due("felt", model.felt(n, finger, is), x.felt(n, finger, is));
            case 34 -> {
                int seen = upTo(Math.max(0, model.about(13) - 1));
                due("untell " + seen, model.untell(seen) ? 1 : 0, x.untell(seen) ? 1 : 0);
            }
            case 35 -> {
                int by = chance.nextInt(3) == 0 ? upTo(1000) : upTo(2);
                due("later " + by, model.later(by), x.later(by));
            }
            case 36 -> due("image", model.image(n), x.image(n));
            case 37 -> due("back", model.back(n), x.back(n));
            case 38 -> due("about", model.about(move), x.about(move));
            default -> dueRows(n, k);
        }
    }

    private void dueRows(int n, int k) {
        due("rows " + k, model.rows(k), x.rows(k));
        due("sure " + n + " " + k, model.sure(n, k), x.sure(n, k));
        due("ask 0 " + k, model.ask(0, k), x.ask(0, k));
        due("ask 1 " + k, model.ask(1, k), x.ask(1, k));
    }
}
