import java.util.ArrayDeque;
import java.util.ArrayList;
import java.util.Arrays;
import java.util.HashMap;
import java.util.HashSet;
import java.util.List;
import java.util.Map;
import java.util.Set;
import java.util.TreeSet;

/** The document once more, by plain search and without care for room: what the class is held against. */
final class Model {
    static final class Fault extends Exception {
        private static final long serialVersionUID = 1;
        final int fault;
        final int place;

        Fault(int fault, int place) {
            super("fault", null, false, false);
            this.fault = fault;
            this.place = place;
        }
    }

    record Token(String text, char sort, int place) { }

    record Tribe(String name, int skill, Set<Integer> stiff, boolean mirrors) { }

    record Move(int from, int to, int finger, int hard, int wrong) { }

    record State(int figure, int holder, int worn, int wet, int wrongs, int drops, int day, int seed,
            List<Integer> has, List<Integer> slept) { }

    record Sighting(boolean finger, int n, int what, boolean is, int told, int[] untold) { }

    interface Node {
        int value(Map<String, Integer> names);
    }

    private static final List<String> WORDS = List.of("figure", "tribe", "skill", "stiff", "mirrors",
            "move", "finger", "hard", "wrong", "worth", "slip", "cord", "draw", "or", "and", "not",
            "worn", "wet", "day");

    // What is told.
    private List<String> figures = new ArrayList<>();
    private List<Tribe> tribes = new ArrayList<>();
    private List<Move> moves = new ArrayList<>();
    private Map<List<Integer>, Integer> worths = new HashMap<>();
    private Node slip = null;
    private int units = 0;
    private int cord = 9;
    private int draw = 0;

    private byte[] tape = new byte[0];
    private int fault = 0;
    private int place = -1;
    private State now = null;
    private List<State> past = new ArrayList<>();
    private List<State> future = new ArrayList<>();
    private List<Integer> lying = new ArrayList<>();
    private List<Sighting> sightings = new ArrayList<>();
    private State[] boxes = new State[3];
    private int time = 0;

    // While a text is read.
    private List<Token> tokens;
    private int at;
    private int nested;

    Model() {
        begin();
    }

    private void begin() {
        List<Integer> zeros = new ArrayList<>();
        for (int i = 0; i < tribes.size(); i++) {
            zeros.add(0);
        }
        now = new State(figures.isEmpty() ? -1 : 0, tribes.isEmpty() ? -1 : 0, 0, 0, 0, 0, 0, draw,
                zeros, zeros);
        past.clear();
        future.clear();
        lying.clear();
        sightings.clear();
        boxes = new State[3];
    }

    // ---- Reading

    int feed(byte[] twenty) {
        if (tape.length + 20 > 1600) {
            return -1;
        }
        byte[] longer = Arrays.copyOf(tape, tape.length + 20);
        System.arraycopy(twenty, 0, longer, tape.length, 20);
        tape = longer;
        return tape.length;
    }

    int end(int n) {
        if (n < 0 || n > tape.length) {
            return -1;
        }
        tape = Arrays.copyOf(tape, n);
        return n;
    }

    int treaty() {
        Model draft = new Model();
        String text = new String(tape, java.nio.charset.StandardCharsets.ISO_8859_1);
        tape = new byte[0];
        fault = 0;
        place = -1;
        try {
            draft.read(text);
        } catch (Fault found) {
            fault = found.fault;
            place = found.place;
            return -1;
        }
        figures = draft.figures;
        tribes = draft.tribes;
        moves = draft.moves;
        worths = draft.worths;
        slip = draft.slip;
        units = draft.units;
        cord = draft.cord;
        draw = draft.draw;
        begin();
        return figures.size();
    }

    /** All tokens at once; what is none is one of sort '!', behind which nothing is looked at. */
    private static List<Token> tokensOf(String text) {
        List<Token> all = new ArrayList<>();
        int i = 0;
        while (i < text.length()) {
            String rest = text.substring(i);
            String word = rest.replaceFirst("(?s)[^a-z].*", "");
            String number = rest.replaceFirst("(?s)[^0-9].*", "");
            char first = rest.charAt(0);
            if (first == ' ' || first == '\n') {
                i++;
            } else if (!word.isEmpty()) {
                boolean own = WORDS.contains(word);
                all.add(new Token(word, word.length() > 8 ? '!' : own ? 'w' : 'n', i));
                i += word.length();
            } else if (!number.isEmpty()) {
                boolean bad = number.length() > 4 || rest.matches("(?s)[0-9]+[a-z].*");
                all.add(new Token(number, bad ? '!' : 'd', i));
                i += number.length();
            } else {
                all.add(new Token("" + first, ";()<>=+-*/%".indexOf(first) < 0 ? '!' : 's', i));
                i++;
            }
        }
        all.add(new Token("", '.', text.length()));
        return all;
    }

    private Token look() throws Fault {
        Token token = tokens.get(at);
        if (token.sort == '!') {
            throw new Fault(1, token.place);
        }
        return token;
    }

    private boolean sees(String text) throws Fault {
        Token token = look();
        return (token.sort == 'w' || token.sort == 's') && token.text.equals(text);
    }

    private boolean skips(String text) throws Fault {
        if (!sees(text)) {
            return false;
        }
        at++;
        return true;
    }

    private void must(String text) throws Fault {
        if (!skips(text)) {
            throw new Fault(2, look().place);
        }
    }

    private void must(boolean is, int what) throws Fault {
        if (!is) {
            throw new Fault(what, look().place);
        }
    }

    private int number(int least, int most) throws Fault {
        must(look().sort == 'd', 2);
        int value = Integer.parseInt(look().text);
        must(value >= least && value <= most, 4);
        at++;
        return value;
    }

    private int named(List<String> names) throws Fault {
        must(look().sort == 'n', 2);
        must(names.contains(look().text), 5);
        return names.indexOf(look().text);
    }

    private List<String> tribeNames() {
        List<String> names = new ArrayList<>();
        tribes.forEach(tribe -> names.add(tribe.name));
        return names;
    }

    private void read(String text) throws Fault {
        tokens = tokensOf(text);
        Set<String> once = new HashSet<>();
        while (look().sort != '.') {
            Token first = look();
            must(first.sort == 'w', 2);
            switch (first.text) {
                case "figure" -> readFigure();
                case "tribe" -> readTribe();
                case "move" -> readMove();
                case "worth" -> readWorth();
                case "slip", "cord", "draw" -> {
                    must(once.add(first.text), 2);
                    at++;
                    if (first.text.equals("slip")) {
                        slip = readE();
                    } else if (first.text.equals("cord")) {
                        cord = number(1, 99);
                    } else {
                        draw = number(0, 999);
                    }
                }
                default -> must(false, 2);
            }
            must(";");
        }
    }

    private void readFigure() throws Fault {
        must(figures.size() < 8, 2);
        at++;
        must(look().sort == 'n', 2);
        must(!figures.contains(look().text), 3);
        figures.add(look().text);
        at++;
    }

    private void readTribe() throws Fault {
        must(tribes.size() < 5, 2);
        at++;
        must(look().sort == 'n', 2);
        must(!tribeNames().contains(look().text), 3);
        String name = look().text;
        at++;
        must("skill");
        int skill = number(0, 9);
        Set<Integer> stiff = new TreeSet<>();
        while (skips("stiff")) {
            int finger = number(0, 9);
            at--;
            must(stiff.add(finger), 3);
            at++;
        }
        tribes.add(new Tribe(name, skill, stiff, skips("mirrors")));
    }

    private void readMove() throws Fault {
        must(moves.size() < 16, 2);
        at++;
        int from = named(figures);
        at++;
        int to = named(figures);
        at++;
        must("finger");
        int finger = number(0, 9);
        must("hard");
        int hard = number(0, 9);
        int wrong = -1;
        if (skips("wrong")) {
            wrong = named(figures);
            at++;
        }
        moves.add(new Move(from, to, finger, hard, wrong));
    }

    private void readWorth() throws Fault {
        at++;
        int tribe = named(tribeNames());
        at++;
        int figure = named(figures);
        must(!worths.containsKey(List.of(tribe, figure)), 3);
        at++;
        worths.put(List.of(tribe, figure), number(0, 99));
    }

    private Node readE() throws Fault {
        Node left = readBoth();
        while (skips("or")) {
            Node a = left;
            Node b = readBoth();
            left = names -> (a.value(names) != 0 | b.value(names) != 0) ? 1 : 0;
        }
        return left;
    }

    private Node readBoth() throws Fault {
        Node left = readOne();
        while (skips("and")) {
            Node a = left;
            Node b = readOne();
            left = names -> (a.value(names) != 0 & b.value(names) != 0) ? 1 : 0;
        }
        return left;
    }

    private Node readOne() throws Fault {
        if (sees("not")) {
            must(nested < 7, 2);
            nested++;
            at++;
            Node of = readOne();
            nested--;
            return names -> of.value(names) == 0 ? 1 : 0;
        }
        Node a = readSum();
        String sign = look().text;
        if (!skips("<") && !skips(">") && !skips("=")) {
            return a;
        }
        Node b = readSum();
        return names -> {
            int compared = Integer.compare(a.value(names), b.value(names));
            return (sign.equals("<") ? compared < 0 : sign.equals(">") ? compared > 0 : compared == 0)
                    ? 1 : 0;
        };
    }

    private Node readSum() throws Fault {
        Node left = readTerm();
        while (sees("+") || sees("-")) {
            boolean plus = skips("+") || !skips("-");
            Node a = left;
            Node b = readTerm();
            left = names -> plus ? a.value(names) + b.value(names) : a.value(names) - b.value(names);
        }
        return left;
    }

    private Node readTerm() throws Fault {
        Node left = readUnit();
        while (sees("*") || sees("/") || sees("%")) {
            char sign = look().text.charAt(0);
            at++;
            Node a = left;
            Node b = readUnit();
            left = names -> {
                int x = a.value(names);
                int y = b.value(names);
                if (sign == '*') {
                    return x * y;
                }
                return y == 0 ? 0 : sign == '/' ? (int) ((long) x / y) : (int) ((long) x % y);
            };
        }
        return left;
    }

    private Node readUnit() throws Fault {
        Token token = look();
        must(units < 30, 2);
        units++;
        if (token.sort == 'd') {
            at++;
            int value = Integer.parseInt(token.text);
            return names -> value;
        }
        if (token.sort == 'w' && List.of("hard", "skill", "worn", "wet", "day").contains(token.text)) {
            at++;
            return names -> names.get(token.text);
        }
        must(sees("("), 2);
        must(nested < 7, 2);
        nested++;
        at++;
        Node e = readE();
        must(")");
        nested--;
        return e;
    }

    // ---- What is told

    private boolean isTribe(int tribe) {
        return tribe >= 0 && tribe < tribes.size();
    }

    private boolean isFigure(int figure) {
        return figure >= 0 && figure < figures.size();
    }

    private boolean isMove(int move) {
        return move >= 0 && move < moves.size();
    }

    private boolean can(int tribe, int move) {
        return can(tribe, move, tribes.get(tribe).mirrors);
    }

    private boolean can(int tribe, int move, boolean mirrors) {
        int finger = moves.get(move).finger;
        return !tribes.get(tribe).stiff.contains(mirrors ? 9 - finger : finger);
    }

    private boolean someCan(int move) {
        for (int tribe = 0; tribe < tribes.size(); tribe++) {
            if (can(tribe, move)) {
                return true;
            }
        }
        return false;
    }

    private int worthOf(int tribe, int figure) {
        return worths.getOrDefault(List.of(tribe, figure), 0);
    }

    private int worthToAll(int figure) {
        int all = 0;
        for (int tribe = 0; tribe < tribes.size(); tribe++) {
            all += worthOf(tribe, figure);
        }
        return all;
    }

    private int slipOf(int tribe, int move) {
        int hard = moves.get(move).hard;
        int skill = tribes.get(tribe).skill;
        int value = slip == null ? 10 * hard - 5 * skill : slip.value(Map.of("hard", hard,
                "skill", skill, "worn", now.worn, "wet", now.wet, "day", now.day));
        return value < 0 ? 0 : value > 100 ? 100 : value;
    }

    int fault(int what) {
        return what == 0 ? fault : what == 1 ? place : -1;
    }

    int tribe(int tribe, int what) {
        if (!isTribe(tribe) || what < 0 || what > 6) {
            return -1;
        }
        int stiff = 0;
        for (int finger : tribes.get(tribe).stiff) {
            stiff += 1 << finger;
        }
        int all = 0;
        int here = 0;
        for (int move = 0; move < moves.size(); move++) {
            if (can(tribe, move)) {
                all += 1 << move;
                here += moves.get(move).from == now.figure && tribe != now.holder ? 1 << move : 0;
            }
        }
        return List.of(tribes.get(tribe).skill, stiff, tribes.get(tribe).mirrors ? 1 : 0,
                now.has.get(tribe), now.slept.get(tribe), all, here).get(what);
    }

    int move(int move, int what) {
        if (!isMove(move) || what < 0 || what > 5) {
            return -2;
        }
        int who = 0;
        for (int tribe = 0; tribe < tribes.size(); tribe++) {
            who += can(tribe, move) ? 1 << tribe : 0;
        }
        Move m = moves.get(move);
        return List.of(m.from, m.to, m.finger, m.hard, m.wrong, who).get(what);
    }

    int worth(int tribe, int figure) {
        return isTribe(tribe) && isFigure(figure) ? worthOf(tribe, figure) : -1;
    }

    int slip(int tribe, int move) {
        return isTribe(tribe) && isMove(move) ? slipOf(tribe, move) : -1;
    }

    // ---- Acts

    private void act(State then) {
        past.add(now);
        if (past.size() > 40) {
            past.remove(0);
        }
        future.clear();
        now = then;
    }

    int take(int tribe, int move) {
        if (!isTribe(tribe) || !isMove(move) || tribe == now.holder || !can(tribe, move)
                || moves.get(move).from != now.figure) {
            return -1;
        }
        int seed = (now.seed * 137 + 71) % 1000;
        Move m = moves.get(move);
        State s = now;
        if (seed % 100 >= slipOf(tribe, move)) {
            s = new State(m.to, tribe, s.worn, s.wet, s.wrongs, s.drops, s.day, seed, s.has, s.slept);
        } else if (m.wrong >= 0) {
            s = new State(m.wrong, tribe, s.worn, s.wet, s.wrongs + 1, s.drops, s.day, seed, s.has,
                    s.slept);
        } else {
            s = new State(0, tribe, 0, s.wet, s.wrongs, s.drops + 1, s.day, seed, s.has, s.slept);
        }
        act(s);
        return now.figure;
    }

    int rain() {
        State s = now;
        if (s.wet == 1) {
            return -1;
        }
        act(new State(s.figure, s.holder, s.worn, 1, s.wrongs, s.drops, s.day, s.seed, s.has, s.slept));
        return s.worn;
    }

    int give(int tribe) {
        State s = now;
        if (!isTribe(tribe) || tribe == s.holder) {
            return -1;
        }
        act(new State(s.figure, tribe, s.worn, s.wet, s.wrongs, s.drops, s.day, s.seed, s.has, s.slept));
        return s.holder;
    }

    private State slept(State s) {
        List<Integer> has = new ArrayList<>(s.has);
        List<Integer> slept = new ArrayList<>(s.slept);
        for (int tribe = 0; tribe < tribes.size(); tribe++) {
            has.set(tribe, has.get(tribe) + worthOf(tribe, s.figure));
        }
        if (s.holder >= 0) {
            slept.set(s.holder, slept.get(s.holder) + 1);
        }
        boolean dropped = s.worn + 1 == cord;
        return new State(dropped && !figures.isEmpty() ? 0 : s.figure, s.holder,
                dropped ? 0 : s.worn + 1, 0, s.wrongs, s.drops + (dropped ? 1 : 0), s.day + 1, s.seed,
                has, slept);
    }

    int night() {
        if (now.day == 999) {
            return -1;
        }
        int all = worthToAll(now.figure);
        act(slept(now));
        return all;
    }

    boolean undo() {
        if (past.isEmpty()) {
            return false;
        }
        future.add(now);
        now = past.remove(past.size() - 1);
        return true;
    }

    boolean redo() {
        if (future.isEmpty()) {
            return false;
        }
        past.add(now);
        now = future.remove(future.size() - 1);
        return true;
    }

    // ---- What can be

    private boolean isOther(int tribe) {
        return isTribe(tribe) && tribe != now.holder;
    }

    /** By breadth, each row of moves ahead of the ones behind it: the first to come is the first. */
    int way(int other, int figure) {
        lying.clear();
        if (!isOther(other) || !isFigure(figure)) {
            return -1;
        }
        ArrayDeque<List<Integer>> rows = new ArrayDeque<>();
        Set<List<Integer>> been = new HashSet<>();
        rows.add(List.of());
        while (!rows.isEmpty()) {
            List<Integer> row = rows.poll();
            int there = row.isEmpty() ? now.figure : moves.get(row.get(row.size() - 1)).to;
            if (there == figure) {
                lying = new ArrayList<>(row);
                return row.size();
            }
            int taker = row.size() % 2 == 0 ? other : now.holder;
            if (been.add(List.of(there, taker))) {
                for (int move = 0; move < moves.size(); move++) {
                    if (moves.get(move).from == there && can(taker, move)) {
                        List<Integer> longer = new ArrayList<>(row);
                        longer.add(move);
                        rows.add(longer);
                    }
                }
            }
        }
        return -1;
    }

    private long bestOdds;
    private List<Integer> bestRow;

    /** All rows of up to four, each against the best so far. */
    int surest(int other, int figure, int part) {
        lying.clear();
        if (!isOther(other) || !isFigure(figure) || part < 0 || part > 1) {
            return -1;
        }
        bestOdds = -1;
        bestRow = null;
        tryRows(other, figure, now.figure, new ArrayList<>(), 100_000_000L);
        if (bestRow == null) {
            return -1;
        }
        lying = bestRow;
        long lower = 100_000_000L;
        long upper = bestOdds;
        for (int prime : new int[] {2, 5}) {
            while (lower % prime == 0 && upper % prime == 0) {
                lower /= prime;
                upper /= prime;
            }
        }
        return (int) (part == 0 ? upper : upper == 0 ? 1 : lower);
    }

    private void tryRows(int other, int figure, int there, List<Integer> row, long odds) {
        if (there == figure && (odds > bestOdds || odds == bestOdds && isAhead(row, bestRow))) {
            bestOdds = odds;
            bestRow = new ArrayList<>(row);
        }
        if (row.size() == 4) {
            return;
        }
        int taker = row.size() % 2 == 0 ? other : now.holder;
        for (int move = 0; move < moves.size(); move++) {
            if (moves.get(move).from == there && can(taker, move)) {
                row.add(move);
                tryRows(other, figure, moves.get(move).to, row,
                        odds / 100 * (100 - slipOf(taker, move)));
                row.remove(row.size() - 1);
            }
        }
    }

    private static boolean isAhead(List<Integer> row, List<Integer> than) {
        if (row.size() != than.size()) {
            return row.size() < than.size();
        }
        for (int i = 0; i < row.size(); i++) {
            if (!row.get(i).equals(than.get(i))) {
                return row.get(i) < than.get(i);
            }
        }
        return false;
    }

    int makes(int set) {
        if (set < 0 || set >= 1 << tribes.size()) {
            return -1;
        }
        Set<List<Integer>> been = new HashSet<>();
        walk(set | (now.holder < 0 ? 0 : 1 << now.holder), now.figure, now.holder, been);
        int bits = 0;
        for (List<Integer> pair : been) {
            bits |= 1 << pair.get(0);
        }
        return bits;
    }

    private void walk(int set, int figure, int holder, Set<List<Integer>> been) {
        if (figure < 0 || !been.add(List.of(figure, holder))) {
            return;
        }
        for (int tribe = 0; tribe < tribes.size(); tribe++) {
            for (int move = 0; move < moves.size(); move++) {
                if ((set >> tribe & 1) == 1 && tribe != holder && can(tribe, move)
                        && moves.get(move).from == figure) {
                    walk(set, moves.get(move).to, tribe, been);
                }
            }
        }
    }

    int hands(int figure, int what) {
        if (!isFigure(figure) || what < 0 || what > 1) {
            return -1;
        }
        for (int size = 0; size <= tribes.size(); size++) {
            for (int set = 0; set < 1 << tribes.size(); set++) {
                boolean besides = now.holder < 0 || (set >> now.holder & 1) == 0;
                if (Integer.bitCount(set) == size && besides && (makes(set) >> figure & 1) == 1) {
                    return what == 0 ? size : set;
                }
            }
        }
        return -1;
    }

    int deal(int other, int n) {
        if (!isOther(other) || n < 0 || n > 8 || figures.isEmpty()) {
            return -1;
        }
        return settle(now.figure, other, now.holder, n, new HashMap<>());
    }

    private int settle(int figure, int mine, int yours, int n, Map<List<Integer>, Integer> known) {
        if (n == 0) {
            return figure;
        }
        List<Integer> key = List.of(figure, mine, n);
        if (!known.containsKey(key)) {
            List<Integer> ends = new ArrayList<>(List.of(figure));
            for (int move = 0; move < moves.size(); move++) {
                if (moves.get(move).from == figure && can(mine, move)) {
                    ends.add(settle(moves.get(move).to, yours, mine, n - 1, known));
                }
            }
            int best = 0;
            for (int end : ends) {
                best = Math.max(best, worthOf(mine, end));
            }
            for (int i = ends.size() - 1; i >= 0; i--) {
                if (worthOf(mine, ends.get(i)) == best) {
                    known.put(key, ends.get(i));
                }
            }
        }
        return known.get(key);
    }

    int fair() {
        List<Integer> order = new ArrayList<>();
        for (int figure = 0; figure < figures.size(); figure++) {
            order.add(figure);
        }
        order.sort((a, b) -> {
            int least = Integer.compare(least(b), least(a));
            int all = Integer.compare(worthToAll(b), worthToAll(a));
            return least != 0 ? least : all != 0 ? all : a - b;
        });
        return order.isEmpty() ? -1 : order.get(0);
    }

    private int least(int figure) {
        int least = 100;
        for (int tribe = 0; tribe < tribes.size(); tribe++) {
            least = Math.min(least, worthOf(tribe, figure));
        }
        return least;
    }

    int good() {
        int bits = 0;
        for (int figure = 0; figure < figures.size(); figure++) {
            boolean good = true;
            for (int other = 0; other < figures.size(); other++) {
                int less = 0;
                int more = 0;
                for (int tribe = 0; tribe < tribes.size(); tribe++) {
                    less += worthOf(tribe, other) < worthOf(tribe, figure) ? 1 : 0;
                    more += worthOf(tribe, other) > worthOf(tribe, figure) ? 1 : 0;
                }
                good &= less > 0 || more == 0;
            }
            bits += good ? 1 << figure : 0;
        }
        return bits;
    }

    private Set<Integer> onFrom(Set<Integer> there) {
        Set<Integer> then = new TreeSet<>();
        for (int move = 0; move < moves.size(); move++) {
            if (there.contains(moves.get(move).from) && someCan(move)) {
                then.add(moves.get(move).to);
            }
        }
        return then;
    }

    int round(int figure) {
        if (!isFigure(figure)) {
            return -1;
        }
        Set<Integer> there = Set.of(figure);
        for (int n = 1; n <= 50; n++) {
            there = onFrom(there);
            if (there.contains(figure)) {
                return n;
            }
        }
        return -1;
    }

    int near(int n) {
        if (n < 0 || n > 8) {
            return -1;
        }
        Set<Integer> there = figures.isEmpty() ? Set.of() : Set.of(now.figure);
        for (int i = 0; i < n; i++) {
            there = onFrom(there);
        }
        int bits = 0;
        for (int figure : there) {
            bits += 1 << figure;
        }
        return bits;
    }

    int both(int tribe, int other) {
        return isTribe(tribe) && isTribe(other) ? tribe(tribe, 5) & tribe(other, 5) : -1;
    }

    int clumsy(int move) {
        int who = -1;
        for (int tribe = tribes.size() - 1; isMove(move) && tribe >= 0; tribe--) {
            if (can(tribe, move) && (who < 0 || slipOf(tribe, move) >= slipOf(who, move))) {
                who = tribe;
            }
        }
        return who;
    }

    int idle() {
        int bits = 0;
        for (int tribe = 0; tribe < tribes.size(); tribe++) {
            bits += tribe != now.holder && tribe(tribe, 6) == 0 ? 1 << tribe : 0;
        }
        return bits;
    }

    int ends() {
        int bits = 0;
        for (int figure = 0; figure < figures.size(); figure++) {
            bits += onFrom(Set.of(figure)).isEmpty() ? 1 << figure : 0;
        }
        return bits;
    }

    int sources() {
        int bits = 0;
        for (int figure = 0; figure < figures.size(); figure++) {
            boolean led = false;
            for (Move m : moves) {
                led |= m.from != figure && (m.to == figure || m.wrong == figure);
            }
            bits += led ? 0 : 1 << figure;
        }
        return bits;
    }

    int will(int tribe, int n) {
        if (!isTribe(tribe) || n < 0 || n > 60) {
            return -1;
        }
        State s = now;
        for (int i = 0; i < n; i++) {
            s = slept(s);
        }
        return s.has.get(tribe);
    }

    int mirror(int tribe) {
        int more = 0;
        for (int move = 0; isTribe(tribe) && move < moves.size(); move++) {
            boolean mirrors = tribes.get(tribe).mirrors;
            more += (can(tribe, move, !mirrors) ? 1 : 0) - (can(tribe, move, mirrors) ? 1 : 0);
        }
        return isTribe(tribe) ? more : -100;
    }

    int lies(int i) {
        return i >= 0 && i < lying.size() ? lying.get(i) : -1;
    }

    // ---- What was seen

    private int tell(boolean finger, int n, int what, boolean is) {
        if (sightings.size() == 30) {
            return -1;
        }
        sightings.add(new Sighting(finger, n, what, is, time, new int[] {-1}));
        return sightings.size() - 1;
    }

    int seen(int n, int figure, boolean is) {
        return n < 0 || n > 6 || !isFigure(figure) ? -1 : tell(false, n, figure, is);
    }

    int felt(int n, int finger, boolean is) {
        return n < 1 || n > 6 || finger < 0 || finger > 9 ? -1 : tell(true, n, finger, is);
    }

    boolean untell(int i) {
        if (i < 0 || i >= sightings.size() || sightings.get(i).untold[0] >= 0) {
            return false;
        }
        sightings.get(i).untold[0] = time;
        return true;
    }

    int later(int by) {
        if (by < 0 || by > 1000 || time + by > 100_000) {
            return -1;
        }
        time += by;
        return time;
    }

    private int all;
    private int[][] behind;

    /** Every row is walked to its end and then held against all that counts. */
    private void walkRows(int k) {
        all = 0;
        behind = new int[7][8];
        if (!figures.isEmpty()) {
            walkRow(k, new int[6], new int[7], 0);
        }
    }

    private void walkRow(int k, int[] row, int[] there, int n) {
        if (n == 6) {
            for (Sighting s : sightings) {
                boolean counts = s.told <= k && !(s.untold[0] >= 0 && s.untold[0] <= k);
                boolean was = s.finger ? moves.get(row[s.n - 1]).finger == s.what : there[s.n] == s.what;
                if (counts && was != s.is) {
                    return;
                }
            }
            all++;
            for (int i = 0; i <= 6; i++) {
                behind[i][there[i]]++;
            }
            return;
        }
        for (int move = 0; move < moves.size(); move++) {
            if (moves.get(move).from == there[n]) {
                row[n] = move;
                there[n + 1] = moves.get(move).to;
                walkRow(k, row, there, n + 1);
            }
        }
    }

    int rows(int k) {
        walkRows(k);
        return all;
    }

    int sure(int n, int k) {
        walkRows(k);
        if (n < 0 || n > 6 || all == 0) {
            return -1;
        }
        for (int figure = 0; figure < 8; figure++) {
            if (behind[n][figure] == all) {
                return figure;
            }
        }
        return -2;
    }

    int ask(int what, int k) {
        walkRows(k);
        if (what < 0 || what > 1 || all == 0) {
            return -1;
        }
        int best = -1;
        int left = all + 1;
        for (int n = 0; n <= 6; n++) {
            int most = Arrays.stream(behind[n]).max().getAsInt();
            if (most < left) {
                left = most;
                best = n;
            }
        }
        return what == 0 ? best : left;
    }

    // ---- Images, and what there is

    int image(int box) {
        if (box < 0 || box > 2) {
            return -1;
        }
        boxes[box] = now;
        return now.day;
    }

    int back(int box) {
        if (box < 0 || box > 2 || boxes[box] == null) {
            return -1;
        }
        now = boxes[box];
        past.clear();
        future.clear();
        return now.day;
    }

    int about(int what) {
        List<Integer> all = List.of(figures.size(), tribes.size(), moves.size(), now.figure, now.holder,
                now.worn, now.wet, now.wrongs, now.drops, now.day, now.seed, past.size(),
                future.size(), sightings.size(), time, tape.length, units, lying.size());
        return what >= 0 && what < all.size() ? all.get(what) : -1;
    }
}
