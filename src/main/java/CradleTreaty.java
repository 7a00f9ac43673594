import java.util.Arrays;

/**
 * Cat's cradle treaties: tribes make peace with a loop of string. What is told of figures, tribes,
 * moves and worths comes as a text; the cord is then taken, given, rained on and slept with, and
 * questions are answered by what is now, or by what was seen of six moves done long ago.
 */
public final class CradleTreaty {
    public static final int NONE = -1;

    private static final int NO_MOVE = -2;
    private static final int NO_MIRROR = -100;
    private static final int FEED = 20;
    private static final int MOST_NIGHTS = 999;
    private static final int MOST_WILL = 60;
    private static final int MOST_NEAR = 8;
    private static final int MOST_DEAL = 8;
    private static final int BOXES = 3;
    private static final int FINGERS = 10;
    private static final int MOST_FIGURES = 8;
    private static final int MOST_TRIBES = 5;
    private static final int MOST_MOVES = 16;

    private final Tape tape = new Tape();
    private final Reader reader = new Reader(tape);
    private final State now = new State();
    private final History acts = new History();
    private final State[] boxes = new State[BOXES];
    private final boolean[] boxed = new boolean[BOXES];
    private final Turns turns = new Turns();
    private final Reach reach = new Reach();
    private final Past past = new Past();
    private Treaty told = new Treaty();

    public CradleTreaty() {
        for (int box = 0; box < BOXES; box++) {
            boxes[box] = new State();
        }
        beginAnew();
    }

    private void beginAnew() {
        now.begin(told);
        acts.forget(now);
        turns.clear();
        past.forget();
        for (int box = 0; box < BOXES; box++) {
            boxed[box] = false;
        }
    }

    // ---- The text

    public int feed(int a, int b, int c, int d, int e) {
        if (!tape.hasRoomFor(FEED)) {
            return NONE;
        }
        tape.put(a);
        tape.put(b);
        tape.put(c);
        tape.put(d);
        tape.put(e);
        return tape.length();
    }

    public int end(int n) {
        return tape.cut(n) ? n : NONE;
    }

    public int treaty() {
        reader.start();
        boolean good = true;
        for (int line = 0; line < Tape.MOST && good && !reader.isAtEnd(); line++) {
            good = reader.readLine();
        }
        tape.cut(0);
        if (!good) {
            return NONE;
        }
        told = reader.exchange(told);
        beginAnew();
        return told.figures;
    }

    public int fault(int what) {
        switch (what) {
            case 0: return reader.fault;
            case 1: return reader.place;
            default: return NONE;
        }
    }

    // ---- What is told

    public int tribe(int tribe, int what) {
        if (!told.hasTribe(tribe)) {
            return NONE;
        }
        switch (what) {
            case 0: return told.skill[tribe];
            case 1: return told.stiff[tribe];
            case 2: return told.mirrors >> tribe & 1;
            case 3: return now.has[tribe];
            case 4: return now.slept[tribe];
            case 5: return told.able[tribe];
            case 6: return tribe == now.holder ? 0 : told.able[tribe] & told.movesFrom(now.figure);
            default: return NONE;
        }
    }

    public int move(int move, int what) {
        if (!told.hasMove(move)) {
            return NO_MOVE;
        }
        switch (what) {
            case 0: return told.from[move];
            case 1: return told.to[move];
            case 2: return told.finger[move];
            case 3: return told.hard[move];
            case 4: return told.wrong[move];
            case 5: return told.tribesFor(move);
            default: return NO_MOVE;
        }
    }

    public int worth(int tribe, int figure) {
        if (!told.hasTribe(tribe) || !told.hasFigure(figure)) {
            return NONE;
        }
        return told.worthOf(tribe, figure);
    }

    public int slip(int tribe, int move) {
        if (!told.hasTribe(tribe) || !told.hasMove(move)) {
            return NONE;
        }
        return told.slipOf(tribe, move, now);
    }

    // ---- Acts

    public int take(int tribe, int move) {
        if (!canTake(tribe, move)) {
            return NONE;
        }
        now.takeOff(told, tribe, move);
        acts.keep(now);
        return now.figure;
    }

    private boolean canTake(int tribe, int move) {
        return told.hasTribe(tribe) && told.hasMove(move) && tribe != now.holder
                && told.from[move] == now.figure && told.can(tribe, move);
    }

    public int rain() {
        if (now.wet != 0) {
            return NONE;
        }
        now.wet = 1;
        acts.keep(now);
        return now.worn;
    }

    public int give(int tribe) {
        if (!told.hasTribe(tribe) || tribe == now.holder) {
            return NONE;
        }
        int before = now.holder;
        now.holder = tribe;
        acts.keep(now);
        return before;
    }

    public int night() {
        if (now.day >= MOST_NIGHTS) {
            return NONE;
        }
        int all = told.worthToAll(now.figure);
        now.sleep(told);
        acts.keep(now);
        return all;
    }

    public boolean undo() {
        return acts.stepBack(now);
    }

    public boolean redo() {
        return acts.stepOn(now);
    }

    // ---- What can be

    public int way(int other, int figure) {
        turns.clear();
        if (!isOther(other) || !told.hasFigure(figure)) {
            return NONE;
        }
        return turns.fewest(told, now, other, figure);
    }

    public int surest(int other, int figure, int part) {
        turns.clear();
        if (!isOther(other) || !told.hasFigure(figure) || part < 0 || part > 1) {
            return NONE;
        }
        if (!turns.likeliest(told, now, other, figure)) {
            return NONE;
        }
        return part == 0 ? turns.upper : turns.lower;
    }

    private boolean isOther(int tribe) {
        return told.hasTribe(tribe) && tribe != now.holder;
    }

    public int makes(int set) {
        if (set < 0 || set >= 1 << told.tribes) {
            return NONE;
        }
        return reach.byTakings(told, now, set);
    }

    public int hands(int figure, int what) {
        if (!told.hasFigure(figure) || what < 0 || what > 1) {
            return NONE;
        }
        int set = reach.fewestHands(told, now, figure);
        if (set == NONE) {
            return NONE;
        }
        return what == 0 ? Integer.bitCount(set) : set;
    }

    public int deal(int other, int n) {
        if (!isOther(other) || n < 0 || n > MOST_DEAL) {
            return NONE;
        }
        return turns.settle(told, now, other, n);
    }

    public int fair() {
        int fairest = NONE;
        for (int figure = 0; figure < told.figures; figure++) {
            if (fairest == NONE || told.isFairer(figure, fairest)) {
                fairest = figure;
            }
        }
        return fairest;
    }

    public int good() {
        int bits = 0;
        for (int figure = 0; figure < told.figures; figure++) {
            if (!told.isBeaten(figure)) {
                bits |= 1 << figure;
            }
        }
        return bits;
    }

    public int round(int figure) {
        if (!told.hasFigure(figure)) {
            return NONE;
        }
        int moves = told.ableAny();
        int come = 1 << figure;
        for (int n = 1; n <= MOST_FIGURES; n++) {
            come = told.behind(come, moves);
            if ((come >> figure & 1) != 0) {
                return n;
            }
        }
        return NONE;
    }

    public int near(int n) {
        if (n < 0 || n > MOST_NEAR) {
            return NONE;
        }
        int moves = told.ableAny();
        int come = now.figureBit();
        for (int i = 0; i < n; i++) {
            come = told.behind(come, moves);
        }
        return come;
    }

    public int both(int tribe, int other) {
        if (!told.hasTribe(tribe) || !told.hasTribe(other)) {
            return NONE;
        }
        return told.able[tribe] & told.able[other];
    }

    public int clumsy(int move) {
        if (!told.hasMove(move)) {
            return NONE;
        }
        int clumsiest = NONE;
        int most = NONE;
        for (int tribe = 0; tribe < told.tribes; tribe++) {
            int slips = told.can(tribe, move) ? told.slipOf(tribe, move, now) : NONE;
            if (slips > most) {
                most = slips;
                clumsiest = tribe;
            }
        }
        return clumsiest;
    }

    public int idle() {
        int here = told.movesFrom(now.figure);
        int bits = 0;
        for (int tribe = 0; tribe < told.tribes; tribe++) {
            if (tribe != now.holder && (told.able[tribe] & here) == 0) {
                bits |= 1 << tribe;
            }
        }
        return bits;
    }

    public int ends() {
        int moves = told.ableAny();
        int bits = 0;
        for (int figure = 0; figure < told.figures; figure++) {
            if ((moves & told.movesFrom(figure)) == 0) {
                bits |= 1 << figure;
            }
        }
        return bits;
    }

    public int sources() {
        int bits = (1 << told.figures) - 1;
        for (int move = 0; move < told.moves; move++) {
            bits &= ~told.othersLedTo(move);
        }
        return bits;
    }

    public int will(int tribe, int n) {
        if (!told.hasTribe(tribe) || n < 0 || n > MOST_WILL) {
            return NONE;
        }
        return now.hasBehind(told, tribe, n);
    }

    public int mirror(int tribe) {
        if (!told.hasTribe(tribe)) {
            return NO_MIRROR;
        }
        boolean mirrors = (told.mirrors >> tribe & 1) != 0;
        return Integer.bitCount(told.ableIf(tribe, !mirrors)) - Integer.bitCount(told.able[tribe]);
    }

    public int lies(int i) {
        return turns.lyingAt(i);
    }

    // ---- What was seen of moves done long ago

    public int seen(int moves, int figure, boolean is) {
        if (!Past.hasNumber(moves) || !told.hasFigure(figure)) {
            return NONE;
        }
        return past.tell(false, moves, figure, is);
    }

    public int felt(int n, int finger, boolean is) {
        if (n < 1 || !Past.hasNumber(n) || finger < 0 || finger >= FINGERS) {
            return NONE;
        }
        return past.tell(true, n, finger, is);
    }

    public boolean untell(int seen) {
        return past.takeBack(seen);
    }

    public int later(int by) {
        return past.goOn(by) ? past.time : NONE;
    }

    public int rows(int k) {
        return past.count(told, k);
    }

    public int sure(int moves, int k) {
        if (!Past.hasNumber(moves) || past.count(told, k) == 0) {
            return NONE;
        }
        return past.onlyFigure(moves);
    }

    public int ask(int what, int k) {
        if (what < 0 || what > 1 || past.count(told, k) == 0) {
            return NONE;
        }
        int n = past.bestToKnow();
        return what == 0 ? n : past.mostLeft(n);
    }

    // ---- Images, and what there is

    public int image(int box) {
        if (box < 0 || box >= BOXES) {
            return NONE;
        }
        boxes[box].copy(now);
        boxed[box] = true;
        return now.day;
    }

    public int back(int box) {
        if (box < 0 || box >= BOXES || !boxed[box]) {
            return NONE;
        }
        now.copy(boxes[box]);
        acts.forget(now);
        return now.day;
    }

    public int about(int what) {
        switch (what) {
            case 0: return told.figures;
            case 1: return told.tribes;
            case 2: return told.moves;
            case 3: return now.figure;
            case 4: return now.holder;
            case 5: return now.worn;
            case 6: return now.wet;
            case 7: return now.wrongs;
            case 8: return now.drops;
            case 9: return now.day;
            case 10: return now.seed;
            case 11: return acts.at;
            case 12: return acts.top - acts.at;
            case 13: return past.sightings;
            case 14: return past.time;
            case 15: return tape.length();
            case 16: return told.slipping.units;
            case 17: return turns.lie;
            default: return NONE;
        }
    }

    /** The bytes that were fed and not read yet. */
    private static final class Tape {
        private static final int MOST = 1600;

        private final byte[] bytes = new byte[MOST];
        private int length = 0;

        int length() {
            return length;
        }

        boolean hasRoomFor(int n) {
            return n <= MOST - length;
        }

        void put(int number) {
            for (int shift = 24; shift >= 0; shift -= 8) {
                if (length < MOST) {
                    bytes[length] = (byte) (number >> shift);
                    length++;
                }
            }
        }

        boolean cut(int n) {
            if (n < 0 || n > length) {
                return false;
            }
            length = n;
            return true;
        }

        /** The byte at a place, NONE behind the end. */
        int at(int place) {
            return place >= 0 && place < length ? bytes[place] & 255 : NONE;
        }
    }

    /** The tokens on the tape, one after the other. A sign's kind is its own byte. */
    private static final class Tokens {
        static final int FIGURE = 0;
        static final int TRIBE = 1;
        static final int SKILL = 2;
        static final int STIFF = 3;
        static final int MIRRORS = 4;
        static final int MOVE = 5;
        static final int FINGER = 6;
        static final int HARD = 7;
        static final int WRONG = 8;
        static final int WORTH = 9;
        static final int SLIP = 10;
        static final int CORD = 11;
        static final int DRAW = 12;
        static final int OR = 13;
        static final int AND = 14;
        static final int NOT = 15;
        static final int WORN = 16;
        static final int WET = 17;
        static final int DAY = 18;
        static final int NAME = 19;
        static final int NUMBER = 20;
        static final int END = 21;
        static final int BAD = 22;

        private static final int LONGEST_WORD = 8;
        private static final int LONGEST_NUMBER = 4;
        private static final String SIGNS = ";()<>=+-*/%";

        // The words that stand for themselves, packed as tokens are, each at the place of its kind.
        private static final long[] WORDS = {
            0x666967757265L,   // figure
            0x7472696265L,     // tribe
            0x736b696c6cL,     // skill
            0x7374696666L,     // stiff
            0x6d6972726f7273L, // mirrors
            0x6d6f7665L,       // move
            0x66696e676572L,   // finger
            0x68617264L,       // hard
            0x77726f6e67L,     // wrong
            0x776f727468L,     // worth
            0x736c6970L,       // slip
            0x636f7264L,       // cord
            0x64726177L,       // draw
            0x6f72L,           // or
            0x616e64L,         // and
            0x6e6f74L,         // not
            0x776f726eL,       // worn
            0x776574L,         // wet
            0x646179L,         // day
        };

        private final Tape tape;
        private int next = 0;
        private int kind = END;
        private int place = 0;
        private int number = 0;
        private long word = 0;

        Tokens(Tape tape) {
            this.tape = tape;
        }

        void start() {
            next = 0;
            step();
        }

        void step() {
            skipBlanks();
            place = next;
            int first = tape.at(next);
            if (first == NONE) {
                kind = END;
            } else if (isLetter(first)) {
                readWord();
            } else if (isDigit(first)) {
                readNumber();
            } else {
                kind = SIGNS.indexOf((char) first) >= 0 ? first : BAD;
                next++;
            }
        }

        private void skipBlanks() {
            for (; next < tape.length(); next++) {
                int sign = tape.at(next);
                if (sign != 32 && sign != 10) {
                    return;
                }
            }
        }

        // A word is packed into a long, a byte a letter: it is then found and kept without a text.
        private void readWord() {
            word = 0;
            for (; next < tape.length() && isLetter(tape.at(next)); next++) {
                word = word << 8 | tape.at(next);
            }
            kind = next - place > LONGEST_WORD ? BAD : kindOf(word);
        }

        private void readNumber() {
            number = 0;
            for (; next < tape.length() && isDigit(tape.at(next)); next++) {
                number = number * 10 + tape.at(next) - '0';
            }
            boolean tooLong = next - place > LONGEST_NUMBER;
            kind = tooLong || isLetter(tape.at(next)) ? BAD : NUMBER;
        }

        private static int kindOf(long word) {
            for (int kind = 0; kind < WORDS.length; kind++) {
                if (WORDS[kind] == word) {
                    return kind;
                }
            }
            return NAME;
        }

        private static boolean isLetter(int sign) {
            return sign >= 'a' && sign <= 'z';
        }

        private static boolean isDigit(int sign) {
            return sign >= '0' && sign <= '9';
        }
    }

    /**
     * Reads the tape into a draft, so that a fault leaves the treaty that is as it is. Every fault
     * is at the token that is looked at, so the first one found is the first by its place.
     */
    private static final class Reader {
        private static final int NO_TOKEN = 1;
        private static final int CANT_STAND = 2;
        private static final int TOLD_ALREADY = 3;
        private static final int CANT_BE = 4;
        private static final int UNKNOWN = 5;

        // Slip is told once, so the 60 units in all can't be reached before the 30 of its e.
        private static final int MOST_UNITS = 30;
        private static final int MOST_WITHIN = 6;
        private static final int MOST_DIGIT = 9;
        private static final int MOST_WORTH = 99;
        private static final int MOST_CORD = 99;
        private static final int MOST_DRAW = 999;

        private final Tokens tokens;
        private Treaty draft = new Treaty();
        private boolean cordTold = false;
        private boolean drawTold = false;
        private int within = 0;
        private int fault = 0;
        private int place = NONE;

        Reader(Tape tape) {
            tokens = new Tokens(tape);
        }

        /** Hands out the draft that was read; the old treaty is the place of the next draft. */
        Treaty exchange(Treaty old) {
            draft.seeWhoCan();
            Treaty read = draft;
            draft = old;
            return read;
        }

        // The lines are read one by one from outside: so the calls within a line stay eight deep.
        void start() {
            draft.clear();
            cordTold = false;
            drawTold = false;
            within = 0;
            fault = 0;
            place = NONE;
            tokens.start();
        }

        boolean isAtEnd() {
            return tokens.kind == Tokens.END;
        }

        private boolean refuse(int what) {
            fault = tokens.kind == Tokens.BAD ? NO_TOKEN : what;
            place = tokens.place;
            return false;
        }

        boolean readLine() {
            switch (tokens.kind) {
                case Tokens.FIGURE: return readFigure();
                case Tokens.TRIBE: return readTribe();
                case Tokens.MOVE: return readMove();
                case Tokens.WORTH: return readWorth();
                case Tokens.SLIP: return readSlip();
                case Tokens.CORD: return readCord();
                case Tokens.DRAW: return readDraw();
                default: return refuse(CANT_STAND);
            }
        }

        private boolean pass(int kind) {
            if (tokens.kind != kind) {
                return refuse(CANT_STAND);
            }
            tokens.step();
            return true;
        }

        /** A number that lies there next; it is passed. NONE, refused, if it is none or can't be. */
        private int passNumber(int least, int most) {
            if (tokens.kind != Tokens.NUMBER) {
                refuse(CANT_STAND);
                return NONE;
            }
            int number = tokens.number;
            if (number < least || number > most) {
                refuse(CANT_BE);
                return NONE;
            }
            tokens.step();
            return number;
        }

        /** The figure named there (not passed); NONE, refused, if there is none. */
        private int namedFigure() {
            if (tokens.kind != Tokens.NAME) {
                refuse(CANT_STAND);
                return NONE;
            }
            int figure = draft.figureNamed(tokens.word);
            if (figure == NONE) {
                refuse(UNKNOWN);
            }
            return figure;
        }

        private int passFigure() {
            int figure = namedFigure();
            if (figure != NONE) {
                tokens.step();
            }
            return figure;
        }

        private int passTribe() {
            if (tokens.kind != Tokens.NAME) {
                refuse(CANT_STAND);
                return NONE;
            }
            int tribe = draft.tribeNamed(tokens.word);
            if (tribe == NONE) {
                refuse(UNKNOWN);
                return NONE;
            }
            tokens.step();
            return tribe;
        }

        private boolean readFigure() {
            if (draft.figures >= MOST_FIGURES) {
                return refuse(CANT_STAND);
            }
            tokens.step();
            if (tokens.kind != Tokens.NAME) {
                return refuse(CANT_STAND);
            }
            if (draft.figureNamed(tokens.word) != NONE) {
                return refuse(TOLD_ALREADY);
            }
            draft.addFigure(tokens.word);
            tokens.step();
            return pass(';');
        }

        private boolean readTribe() {
            if (draft.tribes >= MOST_TRIBES) {
                return refuse(CANT_STAND);
            }
            tokens.step();
            if (tokens.kind != Tokens.NAME) {
                return refuse(CANT_STAND);
            }
            if (draft.tribeNamed(tokens.word) != NONE) {
                return refuse(TOLD_ALREADY);
            }
            long name = tokens.word;
            tokens.step();
            if (!pass(Tokens.SKILL)) {
                return false;
            }
            int skill = passNumber(0, MOST_DIGIT);
            int stiff = skill == NONE ? NONE : passStiff();
            if (stiff == NONE) {
                return false;
            }
            boolean mirrors = tokens.kind == Tokens.MIRRORS;
            if (mirrors) {
                tokens.step();
            }
            draft.addTribe(name, skill, stiff, mirrors);
            return pass(';');
        }

        /** Stiff fingers as bits; NONE, refused, if one can't be. */
        private int passStiff() {
            int bits = 0;
            // One more than the fingers: that one is refused, whatever it is.
            for (int i = 0; i <= FINGERS && tokens.kind == Tokens.STIFF; i++) {
                tokens.step();
                if (tokens.kind == Tokens.NUMBER && tokens.number < FINGERS
                        && (bits >> tokens.number & 1) != 0) {
                    refuse(TOLD_ALREADY);
                    return NONE;
                }
                int finger = passNumber(0, MOST_DIGIT);
                if (finger == NONE) {
                    return NONE;
                }
                bits |= 1 << finger;
            }
            return bits;
        }

        private boolean readMove() {
            if (draft.moves >= MOST_MOVES) {
                return refuse(CANT_STAND);
            }
            tokens.step();
            int from = passFigure();
            int to = from == NONE ? NONE : passFigure();
            if (to == NONE || !pass(Tokens.FINGER)) {
                return false;
            }
            int finger = passNumber(0, MOST_DIGIT);
            if (finger == NONE || !pass(Tokens.HARD)) {
                return false;
            }
            int hard = passNumber(0, MOST_DIGIT);
            if (hard == NONE) {
                return false;
            }
            int wrong = NONE;
            if (tokens.kind == Tokens.WRONG) {
                tokens.step();
                wrong = passFigure();
                if (wrong == NONE) {
                    return false;
                }
            }
            draft.addMove(from, to, finger, hard, wrong);
            return pass(';');
        }

        private boolean readWorth() {
            tokens.step();
            int tribe = passTribe();
            int figure = tribe == NONE ? NONE : namedFigure();
            if (figure == NONE) {
                return false;
            }
            if (draft.isWorthTold(tribe, figure)) {
                return refuse(TOLD_ALREADY);
            }
            tokens.step();
            int worth = passNumber(0, MOST_WORTH);
            if (worth == NONE) {
                return false;
            }
            draft.tellWorth(tribe, figure, worth);
            return pass(';');
        }

        private boolean readCord() {
            if (cordTold) {
                return refuse(CANT_STAND);
            }
            cordTold = true;
            tokens.step();
            int cord = passNumber(1, MOST_CORD);
            if (cord == NONE) {
                return false;
            }
            draft.cord = cord;
            return pass(';');
        }

        private boolean readDraw() {
            if (drawTold) {
                return refuse(CANT_STAND);
            }
            drawTold = true;
            tokens.step();
            int draw = passNumber(0, MOST_DRAW);
            if (draw == NONE) {
                return false;
            }
            draft.draw = draw;
            return pass(';');
        }

        private boolean readSlip() {
            if (draft.slipping.isTold()) {
                return refuse(CANT_STAND);
            }
            tokens.step();
            return readOr() && pass(';');
        }

        // In each of these loops a turn reads a unit or is refused, so the units are its bound.
        private boolean readOr() {
            if (!readAnd()) {
                return false;
            }
            for (int i = 0; i < MOST_UNITS && tokens.kind == Tokens.OR; i++) {
                tokens.step();
                if (!readAnd()) {
                    return false;
                }
                draft.slipping.addStep(Tokens.OR);
            }
            return true;
        }

        private boolean readAnd() {
            if (!readOne()) {
                return false;
            }
            for (int i = 0; i < MOST_UNITS && tokens.kind == Tokens.AND; i++) {
                tokens.step();
                if (!readOne()) {
                    return false;
                }
                draft.slipping.addStep(Tokens.AND);
            }
            return true;
        }

        private boolean readOne() {
            if (tokens.kind == Tokens.NOT) {
                return readNot();
            }
            if (!readSum()) {
                return false;
            }
            int sign = tokens.kind;
            if (sign != '<' && sign != '>' && sign != '=') {
                return true;
            }
            tokens.step();
            if (!readSum()) {
                return false;
            }
            draft.slipping.addStep(sign);
            return true;
        }

        private boolean readNot() {
            if (within > MOST_WITHIN) {
                return refuse(CANT_STAND);
            }
            within++;
            tokens.step();
            if (!readOne()) {
                return false;
            }
            within--;
            draft.slipping.addStep(Tokens.NOT);
            return true;
        }

        private boolean readSum() {
            if (!readTerm()) {
                return false;
            }
            for (int i = 0; i < MOST_UNITS && (tokens.kind == '+' || tokens.kind == '-'); i++) {
                int sign = tokens.kind;
                tokens.step();
                if (!readTerm()) {
                    return false;
                }
                draft.slipping.addStep(sign);
            }
            return true;
        }

        private boolean readTerm() {
            if (!readUnit()) {
                return false;
            }
            for (int i = 0; i < MOST_UNITS && isTimes(tokens.kind); i++) {
                int sign = tokens.kind;
                tokens.step();
                if (!readUnit()) {
                    return false;
                }
                draft.slipping.addStep(sign);
            }
            return true;
        }

        private static boolean isTimes(int kind) {
            return kind == '*' || kind == '/' || kind == '%';
        }

        private boolean readUnit() {
            if (draft.slipping.units >= MOST_UNITS) {
                return refuse(CANT_STAND);
            }
            switch (tokens.kind) {
                case Tokens.NUMBER:
                    draft.slipping.addNumber(tokens.number);
                    tokens.step();
                    return true;
                case Tokens.HARD:
                case Tokens.SKILL:
                case Tokens.WORN:
                case Tokens.WET:
                case Tokens.DAY:
                    draft.slipping.addWord(tokens.kind);
                    tokens.step();
                    return true;
                case '(':
                    return readBrackets();
                default:
                    return refuse(CANT_STAND);
            }
        }

        private boolean readBrackets() {
            if (within > MOST_WITHIN) {
                return refuse(CANT_STAND);
            }
            within++;
            draft.slipping.units++;
            tokens.step();
            if (!readOr() || !pass(')')) {
                return false;
            }
            within--;
            return true;
        }
    }

    /** How one slips: steps on a pile of numbers. A number is its own step, another ~ its token. */
    private static final class Formula {
        // 30 units, 29 signs between them, and 7 times not before each of them.
        private static final int MOST_STEPS = 272;
        private static final int MOST_PILED = 32;

        private final int[] steps = new int[MOST_STEPS];
        private final int[] pile = new int[MOST_PILED];
        private int count = 0;
        private int units = 0;
        private int high = 0;

        void clear() {
            count = 0;
            units = 0;
        }

        boolean isTold() {
            return units > 0;
        }

        void addNumber(int number) {
            units++;
            add(number);
        }

        void addWord(int kind) {
            units++;
            add(~kind);
        }

        void addStep(int kind) {
            add(~kind);
        }

        private void add(int step) {
            if (count < MOST_STEPS) {
                steps[count] = step;
                count++;
            }
        }

        int value(int hard, int skill, State now) {
            high = 0;
            for (int i = 0; i < count && i < MOST_STEPS; i++) {
                int step = steps[i];
                if (step >= 0) {
                    push(step);
                    continue;
                }
                switch (~step) {
                    case Tokens.HARD: push(hard); break;
                    case Tokens.SKILL: push(skill); break;
                    case Tokens.WORN: push(now.worn); break;
                    case Tokens.WET: push(now.wet); break;
                    case Tokens.DAY: push(now.day); break;
                    case Tokens.NOT: push(bit(pop() == 0)); break;
                    default: pushJoined(~step);
                }
            }
            return pop();
        }

        private void pushJoined(int sign) {
            int right = pop();
            int left = pop();
            push(join(sign, left, right));
        }

        private static int join(int sign, int left, int right) {
            switch (sign) {
                case Tokens.OR: return bit(left != 0 || right != 0);
                case Tokens.AND: return bit(left != 0 && right != 0);
                case '<': return bit(left < right);
                case '>': return bit(left > right);
                case '=': return bit(left == right);
                case '+': return left + right;
                case '-': return left - right;
                case '*': return left * right;
                case '/': return right == 0 ? 0 : left / right;
                case '%': return right == 0 ? 0 : left % right;
                default: return 0;
            }
        }

        private static int bit(boolean is) {
            return is ? 1 : 0;
        }

        private void push(int number) {
            if (high < MOST_PILED) {
                pile[high] = number;
                high++;
            }
        }

        private int pop() {
            if (high <= 0) {
                return 0;
            }
            high--;
            return pile[high];
        }
    }

    /** What is told in the text. */
    private static final class Treaty {
        private static final int USUAL_CORD = 9;
        private static final int MOST_SLIP = 100;

        private final long[] figureNames = new long[MOST_FIGURES];
        private final long[] tribeNames = new long[MOST_TRIBES];
        private final int[] skill = new int[MOST_TRIBES];
        private final int[] stiff = new int[MOST_TRIBES];
        private final int[] able = new int[MOST_TRIBES];
        private final int[] worths = new int[MOST_TRIBES * MOST_FIGURES];
        private final int[] from = new int[MOST_MOVES];
        private final int[] to = new int[MOST_MOVES];
        private final int[] finger = new int[MOST_MOVES];
        private final int[] hard = new int[MOST_MOVES];
        private final int[] wrong = new int[MOST_MOVES];
        private final Formula slipping = new Formula();
        private int figures = 0;
        private int tribes = 0;
        private int moves = 0;
        private int mirrors = 0;
        private int cord = USUAL_CORD;
        private int draw = 0;

        void clear() {
            figures = 0;
            tribes = 0;
            moves = 0;
            mirrors = 0;
            cord = USUAL_CORD;
            draw = 0;
            slipping.clear();
            Arrays.fill(worths, NONE);
        }

        boolean hasFigure(int figure) {
            return figure >= 0 && figure < figures;
        }

        boolean hasTribe(int tribe) {
            return tribe >= 0 && tribe < tribes;
        }

        boolean hasMove(int move) {
            return move >= 0 && move < moves;
        }

        int figureNamed(long name) {
            for (int figure = 0; figure < figures; figure++) {
                if (figureNames[figure] == name) {
                    return figure;
                }
            }
            return NONE;
        }

        int tribeNamed(long name) {
            for (int tribe = 0; tribe < tribes; tribe++) {
                if (tribeNames[tribe] == name) {
                    return tribe;
                }
            }
            return NONE;
        }

        void addFigure(long name) {
            if (figures < MOST_FIGURES) {
                figureNames[figures] = name;
                figures++;
            }
        }

        void addTribe(long name, int skilled, int stiffBits, boolean mirrored) {
            if (tribes < MOST_TRIBES) {
                tribeNames[tribes] = name;
                skill[tribes] = skilled;
                stiff[tribes] = stiffBits;
                mirrors |= mirrored ? 1 << tribes : 0;
                tribes++;
            }
        }

        void addMove(int fromFigure, int toFigure, int byFinger, int howHard, int wrongFigure) {
            if (moves < MOST_MOVES) {
                from[moves] = fromFigure;
                to[moves] = toFigure;
                finger[moves] = byFinger;
                hard[moves] = howHard;
                wrong[moves] = wrongFigure;
                moves++;
            }
        }

        boolean isWorthTold(int tribe, int figure) {
            return hasTribe(tribe) && hasFigure(figure)
                    && worths[tribe * MOST_FIGURES + figure] != NONE;
        }

        void tellWorth(int tribe, int figure, int worth) {
            if (hasTribe(tribe) && hasFigure(figure)) {
                worths[tribe * MOST_FIGURES + figure] = worth;
            }
        }

        int worthOf(int tribe, int figure) {
            return isWorthTold(tribe, figure) ? worths[tribe * MOST_FIGURES + figure] : 0;
        }

        int worthToAll(int figure) {
            int all = 0;
            for (int tribe = 0; tribe < tribes; tribe++) {
                all += worthOf(tribe, figure);
            }
            return all;
        }

        private int leastWorth(int figure) {
            int least = tribes == 0 ? 0 : worthOf(0, figure);
            for (int tribe = 1; tribe < tribes; tribe++) {
                least = Math.min(least, worthOf(tribe, figure));
            }
            return least;
        }

        boolean isFairer(int figure, int than) {
            int least = leastWorth(figure);
            int otherLeast = leastWorth(than);
            if (least != otherLeast) {
                return least > otherLeast;
            }
            return worthToAll(figure) > worthToAll(than);
        }

        boolean isBeaten(int figure) {
            for (int other = 0; other < figures; other++) {
                if (beats(other, figure)) {
                    return true;
                }
            }
            return false;
        }

        private boolean beats(int other, int figure) {
            boolean more = false;
            for (int tribe = 0; tribe < tribes; tribe++) {
                int gain = worthOf(tribe, other) - worthOf(tribe, figure);
                if (gain < 0) {
                    return false;
                }
                more |= gain > 0;
            }
            return more;
        }

        /** Looked at once, when all is told: many questions go by it. */
        void seeWhoCan() {
            for (int tribe = 0; tribe < tribes; tribe++) {
                able[tribe] = ableIf(tribe, (mirrors >> tribe & 1) != 0);
            }
        }

        /** The moves that a tribe could do, if it mirrored or did not. */
        int ableIf(int tribe, boolean mirrored) {
            int bits = 0;
            for (int move = 0; move < moves; move++) {
                int by = mirrored ? FINGERS - 1 - finger[move] : finger[move];
                if (hasTribe(tribe) && (stiff[tribe] >> by & 1) == 0) {
                    bits |= 1 << move;
                }
            }
            return bits;
        }

        boolean can(int tribe, int move) {
            return hasTribe(tribe) && hasMove(move) && (able[tribe] >> move & 1) != 0;
        }

        int ableAny() {
            int bits = 0;
            for (int tribe = 0; tribe < tribes; tribe++) {
                bits |= able[tribe];
            }
            return bits;
        }

        int tribesFor(int move) {
            int bits = 0;
            for (int tribe = 0; tribe < tribes; tribe++) {
                if (can(tribe, move)) {
                    bits |= 1 << tribe;
                }
            }
            return bits;
        }

        int movesFrom(int figure) {
            int bits = 0;
            for (int move = 0; move < moves; move++) {
                if (from[move] == figure) {
                    bits |= 1 << move;
                }
            }
            return bits;
        }

        /** The figures behind one of some moves, from one of some figures. */
        int behind(int figureBits, int moveBits) {
            int bits = 0;
            for (int move = 0; move < moves; move++) {
                if ((moveBits >> move & 1) != 0 && (figureBits >> from[move] & 1) != 0) {
                    bits |= 1 << to[move];
                }
            }
            return bits;
        }

        /** The figures, but its own, to which a move leads, if it slips or not. */
        int othersLedTo(int move) {
            if (!hasMove(move)) {
                return 0;
            }
            int bits = 1 << to[move];
            if (wrong[move] != NONE) {
                bits |= 1 << wrong[move];
            }
            return bits & ~(1 << from[move]);
        }

        int slipOf(int tribe, int move, State now) {
            if (!hasTribe(tribe) || !hasMove(move)) {
                return 0;
            }
            int slips = slipping.isTold() ? slipping.value(hard[move], skill[tribe], now)
                    : 10 * hard[move] - 5 * skill[tribe];
            return Math.max(0, Math.min(MOST_SLIP, slips));
        }
    }

    /** How it is with the cord, and what each has of it. */
    private static final class State {
        private final int[] has = new int[MOST_TRIBES];
        private final int[] slept = new int[MOST_TRIBES];
        private int figure = NONE;
        private int holder = NONE;
        private int worn = 0;
        private int wet = 0;
        private int wrongs = 0;
        private int drops = 0;
        private int day = 0;
        private int seed = 0;

        void begin(Treaty told) {
            Arrays.fill(has, 0);
            Arrays.fill(slept, 0);
            figure = told.figures > 0 ? 0 : NONE;
            holder = told.tribes > 0 ? 0 : NONE;
            worn = 0;
            wet = 0;
            wrongs = 0;
            drops = 0;
            day = 0;
            seed = told.draw;
        }

        void copy(State other) {
            System.arraycopy(other.has, 0, has, 0, MOST_TRIBES);
            System.arraycopy(other.slept, 0, slept, 0, MOST_TRIBES);
            figure = other.figure;
            holder = other.holder;
            worn = other.worn;
            wet = other.wet;
            wrongs = other.wrongs;
            drops = other.drops;
            day = other.day;
            seed = other.seed;
        }

        int figureBit() {
            return figure >= 0 ? 1 << figure : 0;
        }

        void takeOff(Treaty told, int tribe, int move) {
            if (!told.hasMove(move)) {
                return;
            }
            int slips = told.slipOf(tribe, move, this);
            seed = (seed * 137 + 71) % 1000;
            if (seed % 100 >= slips) {
                figure = told.to[move];
            } else if (told.wrong[move] != NONE) {
                figure = told.wrong[move];
                wrongs++;
            } else {
                drop(told);
            }
            holder = tribe;
        }

        private void drop(Treaty told) {
            figure = told.figures > 0 ? 0 : NONE;
            worn = 0;
            drops++;
        }

        void sleep(Treaty told) {
            for (int tribe = 0; tribe < told.tribes; tribe++) {
                has[tribe] += told.worthOf(tribe, figure);
            }
            if (told.hasTribe(holder)) {
                slept[holder]++;
            }
            worn++;
            if (worn >= told.cord) {
                drop(told);
            }
            wet = 0;
            day++;
        }

        int hasBehind(Treaty told, int tribe, int nights) {
            if (!told.hasTribe(tribe)) {
                return NONE;
            }
            int all = has[tribe];
            int there = figure;
            int age = worn;
            for (int i = 0; i < nights; i++) {
                all += told.worthOf(tribe, there);
                age++;
                if (age >= told.cord) {
                    there = 0;
                    age = 0;
                }
            }
            return all;
        }
    }

    /** What was behind each act that is kept; at place 0 what was ahead of them. */
    private static final class History {
        private static final int MOST = 40;

        private final State[] kept = new State[MOST + 1];
        private int at = 0;
        private int top = 0;

        History() {
            for (int i = 0; i <= MOST; i++) {
                kept[i] = new State();
            }
        }

        void forget(State now) {
            at = 0;
            top = 0;
            kept[0].copy(now);
        }

        void keep(State now) {
            if (at < MOST) {
                at++;
            } else {
                dropOldest();
            }
            top = at;
            kept[at].copy(now);
        }

        private void dropOldest() {
            State oldest = kept[0];
            for (int i = 0; i < MOST; i++) {
                kept[i] = kept[i + 1];
            }
            kept[MOST] = oldest;
        }

        boolean stepBack(State now) {
            if (at <= 0) {
                return false;
            }
            at--;
            now.copy(kept[at]);
            return true;
        }

        boolean stepOn(State now) {
            if (at >= top || at >= MOST) {
                return false;
            }
            at++;
            now.copy(kept[at]);
            return true;
        }
    }

    /** What two can do by turns: turn 0 is the other one's, turn 1 the holder's. */
    private static final class Turns {
        private static final int FAR = 99;
        private static final int STATES = 2 * MOST_FIGURES;
        private static final int MOST_SURE = 4;
        private static final int HUNDRED = 100;

        private final int[] pair = new int[2];
        private final int[] lying = new int[STATES];
        private final int[][] far = new int[2][MOST_FIGURES];
        private final int[][] odds = new int[2][MOST_MOVES];
        // By takings left, then by turn and figure: the greatest product of odds, NONE if no way.
        private final int[][] best = new int[MOST_SURE + 1][STATES];
        private final int[] settled = new int[MOST_FIGURES];
        private final int[] later = new int[MOST_FIGURES];
        private int lie = 0;
        private int upper = 0;
        private int lower = 1;

        void clear() {
            lie = 0;
        }

        int lyingAt(int i) {
            return i >= 0 && i < lie && i < STATES ? lying[i] : NONE;
        }

        private void lay(int move) {
            if (lie < STATES) {
                lying[lie] = move;
                lie++;
            }
        }

        private void sit(State now, int other) {
            pair[0] = other;
            pair[1] = now.holder;
        }

        int fewest(Treaty told, State now, int other, int figure) {
            if (!told.hasFigure(now.figure) || !told.hasFigure(figure)) {
                return NONE;
            }
            sit(now, other);
            measure(told, figure);
            int way = far[0][now.figure];
            if (way >= FAR) {
                return NONE;
            }
            layFewest(told, now.figure, way);
            return way;
        }

        private void measure(Treaty told, int figure) {
            Arrays.fill(far[0], FAR);
            Arrays.fill(far[1], FAR);
            far[0][figure] = 0;
            far[1][figure] = 0;
            boolean nearer = true;
            for (int i = 0; i < STATES && nearer; i++) {
                boolean first = measureMoves(told, 0);
                boolean second = measureMoves(told, 1);
                nearer = first || second;
            }
        }

        private boolean measureMoves(Treaty told, int turn) {
            boolean nearer = false;
            for (int move = 0; move < told.moves; move++) {
                int way = far[1 - turn][told.to[move]] + 1;
                if (way < far[turn][told.from[move]] && told.can(pair[turn], move)) {
                    far[turn][told.from[move]] = way;
                    nearer = true;
                }
            }
            return nearer;
        }

        private void layFewest(Treaty told, int start, int way) {
            int figure = start;
            for (int i = 0; i < way; i++) {
                int move = firstNearer(told, figure, i & 1, way - i - 1);
                if (move == NONE) {
                    return;
                }
                lay(move);
                figure = told.to[move];
            }
        }

        private int firstNearer(Treaty told, int figure, int turn, int left) {
            for (int move = 0; move < told.moves; move++) {
                if (told.from[move] == figure && far[1 - turn][told.to[move]] == left
                        && told.can(pair[turn], move)) {
                    return move;
                }
            }
            return NONE;
        }

        /** Whether there is a way; its odds are upper of lower then. */
        boolean likeliest(Treaty told, State now, int other, int figure) {
            if (!told.hasFigure(now.figure) || !told.hasFigure(figure)) {
                return false;
            }
            sit(now, other);
            weigh(told, now, figure);
            int length = likeliestLength(now.figure);
            if (length == NONE) {
                return false;
            }
            int product = best[length][now.figure];
            layLikeliest(told, now.figure, length, product);
            int whole = power(length);
            int common = commonPart(product, whole);
            upper = product / common;
            lower = whole / common;
            return true;
        }

        private void weigh(Treaty told, State now, int figure) {
            for (int move = 0; move < told.moves; move++) {
                odds[0][move] = HUNDRED - told.slipOf(pair[0], move, now);
                odds[1][move] = HUNDRED - told.slipOf(pair[1], move, now);
            }
            Arrays.fill(best[0], NONE);
            best[0][figure] = 1;
            best[0][MOST_FIGURES + figure] = 1;
            for (int left = 1; left <= MOST_SURE; left++) {
                Arrays.fill(best[left], NONE);
                weighMoves(told, left, 0);
                weighMoves(told, left, 1);
            }
        }

        private void weighMoves(Treaty told, int left, int turn) {
            for (int move = 0; move < told.moves; move++) {
                int rest = best[left - 1][(1 - turn) * MOST_FIGURES + told.to[move]];
                if (rest != NONE && told.can(pair[turn], move)) {
                    int at = turn * MOST_FIGURES + told.from[move];
                    best[left][at] = Math.max(best[left][at], odds[turn][move] * rest);
                }
            }
        }

        private int likeliestLength(int start) {
            int length = NONE;
            int most = NONE;
            for (int n = 0; n <= MOST_SURE; n++) {
                int product = best[n][start];
                int scaled = product == NONE ? NONE : product * power(MOST_SURE - n);
                if (scaled > most) {
                    most = scaled;
                    length = n;
                }
            }
            return length;
        }

        // Once a sure slip is on the way the rest need not be the best one: all count 0 alike.
        private void layLikeliest(Treaty told, int start, int length, int product) {
            int figure = start;
            int done = 1;
            for (int i = 0; i < length; i++) {
                int turn = i & 1;
                int move = NONE;
                for (int m = told.moves - 1; m >= 0; m--) {
                    int rest = best[length - i - 1][(1 - turn) * MOST_FIGURES + told.to[m]];
                    if (told.from[m] == figure && rest != NONE && told.can(pair[turn], m)
                            && done * odds[turn][m] * rest == product) {
                        move = m;
                    }
                }
                if (move == NONE) {
                    return;
                }
                lay(move);
                done *= odds[turn][move];
                figure = told.to[move];
            }
        }

        private static int power(int n) {
            int whole = 1;
            for (int i = 0; i < n; i++) {
                whole *= HUNDRED;
            }
            return whole;
        }

        /** The greatest number that divides both; the whole one is 1 at least. */
        private static int commonPart(int part, int whole) {
            int greater = whole;
            int less = part;
            // 100 to the 4th has fewer than 40 such steps in it.
            for (int i = 0; i < 40 && less != 0; i++) {
                int rest = greater % less;
                greater = less;
                less = rest;
            }
            return greater == 0 ? 1 : greater;
        }

        int settle(Treaty told, State now, int other, int n) {
            if (!told.hasFigure(now.figure)) {
                return NONE;
            }
            sit(now, other);
            for (int figure = 0; figure < MOST_FIGURES; figure++) {
                settled[figure] = figure;
            }
            for (int taking = n - 1; taking >= 0; taking--) {
                System.arraycopy(settled, 0, later, 0, MOST_FIGURES);
                for (int figure = 0; figure < told.figures; figure++) {
                    settled[figure] = choose(told, pair[taking & 1], figure);
                }
            }
            return settled[now.figure];
        }

        private int choose(Treaty told, int tribe, int figure) {
            int chosen = figure;
            for (int move = 0; move < told.moves; move++) {
                if (told.from[move] == figure && told.can(tribe, move)) {
                    int then = later[told.to[move]];
                    if (told.worthOf(tribe, then) > told.worthOf(tribe, chosen)) {
                        chosen = then;
                    }
                }
            }
            return chosen;
        }
    }

    /** What some hands can make together. */
    private static final class Reach {
        private static final int MOST_ROUNDS = MOST_TRIBES * MOST_FIGURES;

        // By the holder: the figures that can come so that this one holds them.
        private final int[] held = new int[MOST_TRIBES];

        int byTakings(Treaty told, State now, int set) {
            if (!told.hasTribe(now.holder)) {
                return now.figureBit();
            }
            Arrays.fill(held, 0);
            held[now.holder] = now.figureBit();
            int hands = set | 1 << now.holder;
            boolean more = true;
            for (int i = 0; i < MOST_ROUNDS && more; i++) {
                more = false;
                for (int tribe = 0; tribe < told.tribes; tribe++) {
                    if ((hands >> tribe & 1) != 0 && holdsMore(told, tribe)) {
                        more = true;
                    }
                }
            }
            return heldByAny(told);
        }

        private boolean holdsMore(Treaty told, int taker) {
            int ahead = 0;
            for (int tribe = 0; tribe < told.tribes; tribe++) {
                ahead |= tribe == taker ? 0 : held[tribe];
            }
            int then = held[taker] | told.behind(ahead, told.able[taker]);
            boolean more = then != held[taker];
            held[taker] = then;
            return more;
        }

        private int heldByAny(Treaty told) {
            int bits = 0;
            for (int tribe = 0; tribe < told.tribes; tribe++) {
                bits |= held[tribe];
            }
            return bits;
        }

        /** The least of the smallest sets without the holder; NONE if all are not enough. */
        int fewestHands(Treaty told, State now, int figure) {
            int fewest = NONE;
            for (int set = 0; set < 1 << told.tribes; set++) {
                boolean fewer = fewest == NONE
                        || Integer.bitCount(set) < Integer.bitCount(fewest);
                boolean besides = now.holder == NONE || (set >> now.holder & 1) == 0;
                if (fewer && besides && (byTakings(told, now, set) >> figure & 1) != 0) {
                    fewest = set;
                }
            }
            return fewest;
        }
    }

    /** What was seen of six moves done long ago. */
    private static final class Past {
        private static final int MOVES = 6;
        private static final int MOST_SEEN = 30;
        private static final int MOST_LATER = 1000;
        private static final int MOST_TIME = 100000;

        private final boolean[] byFinger = new boolean[MOST_SEEN];
        private final boolean[] so = new boolean[MOST_SEEN];
        private final int[] number = new int[MOST_SEEN];
        private final int[] what = new int[MOST_SEEN];
        private final int[] toldAt = new int[MOST_SEEN];
        private final int[] untoldAt = new int[MOST_SEEN];
        private final int[] figureBits = new int[MOVES + 1];
        private final int[] fingerBits = new int[MOVES + 1];
        // By the number of moves, then the figure behind them: how many rows come to it, go from it.
        private final int[][] come = new int[MOVES + 1][MOST_FIGURES];
        private final int[][] go = new int[MOVES + 1][MOST_FIGURES];
        private int sightings = 0;
        private int time = 0;

        static boolean hasNumber(int moves) {
            return moves >= 0 && moves <= MOVES;
        }

        void forget() {
            sightings = 0;
        }

        int tell(boolean finger, int n, int which, boolean is) {
            if (sightings >= MOST_SEEN) {
                return NONE;
            }
            int i = sightings;
            byFinger[i] = finger;
            number[i] = n;
            what[i] = which;
            so[i] = is;
            toldAt[i] = time;
            untoldAt[i] = NONE;
            sightings++;
            return i;
        }

        boolean takeBack(int i) {
            if (i < 0 || i >= sightings || untoldAt[i] != NONE) {
                return false;
            }
            untoldAt[i] = time;
            return true;
        }

        boolean goOn(int by) {
            if (by < 0 || by > MOST_LATER || by > MOST_TIME - time) {
                return false;
            }
            time += by;
            return true;
        }

        private boolean counts(int i, int k) {
            return toldAt[i] <= k && (untoldAt[i] == NONE || untoldAt[i] > k);
        }

        /** How many rows there are, as known at k. The answers below are of the latest count. */
        int count(Treaty told, int k) {
            gather(k);
            walkOn(told);
            walkBack(told);
            int all = 0;
            for (int figure = 0; figure < MOST_FIGURES; figure++) {
                all += come[MOVES][figure];
            }
            return all;
        }

        private void gather(int k) {
            Arrays.fill(figureBits, ~0);
            Arrays.fill(fingerBits, ~0);
            for (int i = 0; i < sightings && i < MOST_SEEN; i++) {
                int bits = so[i] ? 1 << what[i] : ~(1 << what[i]);
                if (!counts(i, k) || !hasNumber(number[i])) {
                    continue;
                }
                if (byFinger[i]) {
                    fingerBits[number[i]] &= bits;
                } else {
                    figureBits[number[i]] &= bits;
                }
            }
        }

        private void walkOn(Treaty told) {
            Arrays.fill(come[0], 0);
            if (told.figures > 0) {
                come[0][0] = figureBits[0] & 1;
            }
            for (int n = 1; n <= MOVES; n++) {
                Arrays.fill(come[n], 0);
                for (int move = 0; move < told.moves; move++) {
                    if (fits(told, n, move)) {
                        come[n][told.to[move]] += come[n - 1][told.from[move]];
                    }
                }
            }
        }

        private void walkBack(Treaty told) {
            Arrays.fill(go[MOVES], 1);
            for (int n = MOVES; n >= 1; n--) {
                Arrays.fill(go[n - 1], 0);
                for (int move = 0; move < told.moves; move++) {
                    if (fits(told, n, move)) {
                        go[n - 1][told.from[move]] += go[n][told.to[move]];
                    }
                }
            }
        }

        private boolean fits(Treaty told, int n, int move) {
            return (fingerBits[n] >> told.finger[move] & 1) != 0
                    && (figureBits[n] >> told.to[move] & 1) != 0;
        }

        private int through(int n, int figure) {
            return come[n][figure] * go[n][figure];
        }

        /** The figure behind n moves in all rows; -2 if it is not the same. */
        int onlyFigure(int n) {
            int only = NONE;
            for (int figure = 0; figure < MOST_FIGURES; figure++) {
                if (hasNumber(n) && through(n, figure) != 0) {
                    if (only != NONE) {
                        return -2;
                    }
                    only = figure;
                }
            }
            return only;
        }

        int mostLeft(int n) {
            int most = 0;
            for (int figure = 0; figure < MOST_FIGURES; figure++) {
                if (hasNumber(n)) {
                    most = Math.max(most, through(n, figure));
                }
            }
            return most;
        }

        int bestToKnow() {
            int best = 0;
            for (int n = 1; n <= MOVES; n++) {
                if (mostLeft(n) < mostLeft(best)) {
                    best = n;
                }
            }
            return best;
        }
    }
}
