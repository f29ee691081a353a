import java.util.Arrays;

/** A play of shadows, as shared/DOC.md tells it; the words in capitals there are used here too. */
public final class ClothPlay {
    public static final int NONE = -1;

    private static final int BAD_NUMBER = -1;
    private static final int NO_SUCH = -2;
    private static final int CANNOT_BE = -3;
    private static final int NO_ROOM = -5;
    private static final int BAD_TEXT = -6;

    private static final int FIGURES = 6;
    private static final int SETS = 64;
    private static final int BEATS = 12;
    private static final int SPOTS = 72;
    private static final int EDGE = 8;
    private static final int COLUMNS = 32;
    private static final int ROWS = 16;
    private static final int TAPE = 400;
    private static final int MOST = 1000000000;

    private static final int LAMP = 0;
    private static final int WIDE = 1;
    private static final int HELPERS = 2;
    private static final int TEETH = 3;
    private static final int HOOKS = 4;
    private static final int REACH = 5;
    private static final int ARM = 6;
    private static final int TERMS = 7;
    private static final int[] LOWEST = {2, 0, 0, 0, 0, 0, 0};
    private static final int[] HIGHEST = {32, 16, 3, 1, 6, 31, 31};
    private static final int[] AT_FIRST = {8, 1, 3, 0, 0, 8, 8};

    private static final int ON_HOOKS = 3;
    private static final int HOLDERS = 4;

    private static final int PASS = 1;
    private static final int SLIP = 2;
    private static final int BARS = 3;

    private final Scene scene = new Scene();
    private final Scene[] images = new Scene[2];
    private final int[] tape = new int[TAPE];
    private final Reader reader = new Reader();
    private final Light light = new Light(scene);
    private final Asker asker = new Asker(scene);
    private final Hands hands = new Hands(scene, asker);
    private final Planner planner = new Planner(scene, asker, hands);
    private final Maker maker = new Maker(scene);
    private final int[] slips = new int[BEATS];
    private final int[] refusals = new int[7];
    private int taped = 0;
    private int tornBytes = 0;
    private int faultPlace = NONE;
    private int lastStatus = 0;
    private boolean shown = false;

    public ClothPlay() {
    }

    public int figure(int sticks) {
        if (sticks < 1 || sticks > 2) {
            return refuse(BAD_NUMBER);
        }
        if (scene.figures >= FIGURES) {
            return refuse(NO_ROOM);
        }
        int number = scene.figures;
        scene.stickCount[number] = sticks;
        scene.figures = number + 1;
        changeHands();
        return accept(number);
    }

    public int sticks(int figure, int sticks) {
        if (sticks < 1 || sticks > 2) {
            return refuse(BAD_NUMBER);
        }
        if (!scene.has(figure)) {
            return refuse(NO_SUCH);
        }
        int was = scene.stickCount[figure];
        scene.stickCount[figure] = sticks;
        changeHands();
        return accept(was);
    }

    public int terms(int what, int value) {
        if (what < 0 || what >= TERMS || value < LOWEST[what] || value > HIGHEST[what]) {
            return refuse(BAD_NUMBER);
        }
        int was = scene.term[what];
        scene.term[what] = value;
        changeHands();
        if (what == LAMP) {
            changeCast();
        }
        return accept(was);
    }

    public int on(int figure, int beat, int x, int y, int deep) {
        if (!isBeat(beat) || x < 0 || x >= COLUMNS || y < 0 || y >= ROWS || deep < 1 || deep > 32) {
            return refuse(BAD_NUMBER);
        }
        if (!scene.has(figure)) {
            return refuse(NO_SUCH);
        }
        scene.put(figure, beat, x, y, deep);
        changeHands();
        return accept(0);
    }

    public int off(int figure, int beat) {
        if (!isBeat(beat)) {
            return refuse(BAD_NUMBER);
        }
        if (!scene.has(figure)) {
            return refuse(NO_SUCH);
        }
        int was = scene.isOn(figure, beat) ? 1 : 0;
        scene.put(figure, beat, 0, 0, 0);
        changeHands();
        return accept(was);
    }

    public int of(int figure, int beat, int what) {
        if (!scene.has(figure) || !isBeat(beat)) {
            return NONE;
        }
        boolean isOn = scene.isOn(figure, beat);
        if (what == 0) {
            return isOn ? 1 : 0;
        }
        if (!isOn) {
            return NONE;
        }
        switch (what) {
            case 1:
                return scene.x[figure * BEATS + beat];
            case 2:
                return scene.y[figure * BEATS + beat];
            case 3:
                return scene.depth(figure, beat);
            default:
                return NONE;
        }
    }

    public int feed(int a, int b, int c, int d, int e) {
        if (taped + 20 > TAPE) {
            return NONE;
        }
        writeWord(a);
        writeWord(b);
        writeWord(c);
        writeWord(d);
        writeWord(e);
        return taped;
    }

    public int end(int n) {
        if (n < 0 || n > taped) {
            return NONE;
        }
        taped = n;
        return n;
    }

    public int row(int figure) {
        if (figure != NONE && !scene.has(figure)) {
            return refuse(NO_SUCH);
        }
        if (taped == 0) {
            return refuse(BAD_TEXT);
        }
        int cells = figure == NONE ? takeSheet() : takeOutline(figure);
        taped = 0;
        changeCast();
        return accept(cells);
    }

    public int torn() {
        return tornBytes;
    }

    public int outline(int figure, int j) {
        if (!scene.has(figure) || j < 0 || j >= EDGE) {
            return NONE;
        }
        return scene.outlines[figure * EDGE + j];
    }

    public int play() {
        boolean taken = reader.readText(tape, taped);
        taped = 0;
        faultPlace = taken ? NONE : reader.faultAt;
        if (!taken) {
            return refuse(BAD_TEXT);
        }
        scene.script.takeFrom(reader.script);
        Arrays.fill(scene.deep, 0);
        reader.tellMoves(scene);
        changeHands();
        return accept(scene.script.clauses);
    }

    public int fault() {
        return faultPlace;
    }

    public int shadow(int figure, int beat, int row) {
        if (figure == NONE) {
            return light.rowOfAll(beat, row);
        }
        return light.rowOf(figure, beat, row);
    }

    public int seen(int figure, int beat, int what) {
        if (!scene.isOn(figure, beat)) {
            return NONE;
        }
        switch (what) {
            case 0:
                return light.cellsInBoth(figure, figure, beat);
            case 1:
                return light.hiddenCells(figure, beat);
            case 2:
                return light.blur(figure, beat);
            default:
                return NONE;
        }
    }

    public int common(int one, int other, int beat) {
        if (!scene.isOn(one, beat) || !scene.isOn(other, beat)) {
            return NONE;
        }
        return light.cellsInBoth(one, other, beat);
    }

    public int holds(int helper, int beat, int figures) {
        if (helper < 0 || helper >= HOLDERS || !isBeat(beat) || figures < 0 || figures >= SETS) {
            return NONE;
        }
        if ((figures & ~scene.onBits(beat)) != 0) {
            return NONE;
        }
        hands.lookAt(beat);
        return hands.canHold(helper, beat, figures) ? 1 : 0;
    }

    public int holdings(int beat) {
        if (!isBeat(beat)) {
            return NONE;
        }
        hands.lookAt(beat);
        return hands.waysOfAll(beat, scene.term[HELPERS]);
    }

    public int least(int what) {
        if (what != 0 && what != 1) {
            return NONE;
        }
        if (!planner.findLeast()) {
            return what == 0 ? NONE : 0;
        }
        return what == 0 ? planner.leastCost : planner.leastWays;
    }

    public int holder(int figure, int beat) {
        if (!scene.isOn(figure, beat) || !planner.findLeast()) {
            return NONE;
        }
        return planner.holderAt(figure, beat);
    }

    public int passed(int figure) {
        if (!scene.has(figure) || !planner.findLeast()) {
            return NONE;
        }
        return planner.passesOf(figure);
    }

    public int fewest() {
        for (int helpers = 0; helpers <= HIGHEST[HELPERS]; helpers++) {
            if (hands.firstBarred(helpers) == NONE) {
                return helpers;
            }
        }
        return NONE;
    }

    public int barred(int what) {
        if (what != 0 && what != 1) {
            return NONE;
        }
        int beat = hands.firstBarred(scene.term[HELPERS]);
        if (beat == NONE || what == 0) {
            return beat;
        }
        return hands.coreAt(beat, scene.term[HELPERS]);
    }

    public int made(int cast, int what) {
        if ((what != 0 && what != 1) || !canBeAsked(cast)) {
            return NONE;
        }
        maker.solve(cast);
        return what == 0 ? maker.wayCount() : maker.fewestFigures;
    }

    public int who(int cast, int figure, int what) {
        if (what < 0 || what > 3 || !scene.has(figure) || !canBeAsked(cast)) {
            return NONE;
        }
        maker.solve(cast);
        return maker.fewestFigures == NONE ? NONE : maker.tellOf(figure, what);
    }

    public int sheet(int row) {
        return row < 0 || row >= ROWS ? 0 : scene.told[row];
    }

    public int copy(int beat) {
        if (!isBeat(beat)) {
            return refuse(BAD_NUMBER);
        }
        for (int row = 0; row < ROWS; row++) {
            scene.told[row] = light.rowOfAll(beat, row);
        }
        changeCast();
        return accept(scene.toldCells());
    }

    public int show(int seed) {
        if (seed < 0 || seed > 1000000) {
            return refuse(BAD_NUMBER);
        }
        if (!planner.findLeast()) {
            return refuse(CANNOT_BE);
        }
        long state = seed;
        int slipCount = 0;
        for (int beat = 0; beat < BEATS; beat++) {
            slips[beat] = 0;
            for (int figure = 0; figure < FIGURES; figure++) {
                if (!scene.isOn(figure, beat)) {
                    continue;
                }
                state = (state * 1103 + 12345) % 1000003;
                asker.turnTo(figure, beat, planner.holderAt(figure, beat), NONE);
                if (state % 100 < asker.tellLast(SLIP, 100, 0)) {
                    slips[beat] |= 1 << figure;
                    slipCount++;
                }
            }
        }
        shown = true;
        return accept(slipCount);
    }

    public int slipped(int beat) {
        return shown && isBeat(beat) ? slips[beat] : NONE;
    }

    public int image(int k) {
        if (k < 0 || k >= images.length) {
            return refuse(BAD_NUMBER);
        }
        Scene kept = images[k];
        if (kept == null) {
            kept = new Scene();
            images[k] = kept;
        }
        kept.takeFrom(scene);
        return accept(0);
    }

    public int back(int k) {
        if (k < 0 || k >= images.length) {
            return refuse(BAD_NUMBER);
        }
        Scene kept = images[k];
        if (kept == null) {
            return refuse(NO_SUCH);
        }
        scene.takeFrom(kept);
        changeHands();
        changeCast();
        return accept(0);
    }

    public int count(int what) {
        switch (what) {
            case 0:
                return scene.figures;
            case 1:
                return scene.script.clauses;
            case 2:
            case 3:
            case 4:
                return countBeats(what);
            case 5:
                return scene.toldCells();
            case 6:
                return taped;
            case 7:
                return refusals[-BAD_NUMBER];
            case 8:
                return refusals[-NO_SUCH];
            case 9:
                return refusals[-CANNOT_BE];
            case 10:
                return refusals[-NO_ROOM];
            case 11:
                return refusals[-BAD_TEXT];
            default:
                return NONE;
        }
    }

    public int status() {
        return lastStatus;
    }

    private static boolean isBeat(int beat) {
        return beat >= 0 && beat < BEATS;
    }

    private int refuse(int by) {
        lastStatus = by;
        if (by < 0 && -by < refusals.length) {
            refusals[-by]++;
        }
        return by;
    }

    private int accept(int answer) {
        lastStatus = 0;
        return answer;
    }

    private void changeHands() {
        hands.forget();
        planner.ready = false;
    }

    private void changeCast() {
        maker.forget();
    }

    private boolean canBeAsked(int cast) {
        return cast >= 0 && cast < 1 << scene.figures && scene.toldCells() <= Target.CELLS;
    }

    private void writeWord(int word) {
        for (int shift = 24; shift >= 0; shift -= 8) {
            if (taped < TAPE) {
                tape[taped] = (word >>> shift) & 255;
                taped++;
            }
        }
    }

    private int takeOutline(int figure) {
        int cells = 0;
        for (int j = 0; j < EDGE; j++) {
            int bits = j < taped ? tape[j] : 0;
            scene.outlines[figure * EDGE + j] = bits;
            cells += Integer.bitCount(bits);
        }
        tornBytes = Math.max(0, taped - EDGE);
        return cells;
    }

    private int takeSheet() {
        int whole = Math.min(ROWS, taped / 4);
        for (int row = 0; row < ROWS; row++) {
            int bits = 0;
            if (row < whole) {
                for (int k = 0; k < 4; k++) {
                    bits = (bits << 8) | tape[row * 4 + k];
                }
            }
            scene.told[row] = bits;
        }
        tornBytes = taped - whole * 4;
        return scene.toldCells();
    }

    private int countBeats(int what) {
        int all = 0;
        int beats = 0;
        int most = 0;
        for (int beat = 0; beat < BEATS; beat++) {
            int here = Integer.bitCount(scene.onBits(beat));
            all += here;
            beats += here > 0 ? 1 : 0;
            most = Math.max(most, here);
        }
        return what == 2 ? all : what == 3 ? beats : most;
    }

    /** All that an IMAGE keeps. */
    private static final class Scene {
        int figures = 0;
        final int[] outlines = new int[FIGURES * EDGE];
        final int[] stickCount = new int[FIGURES];
        final int[] term = AT_FIRST.clone();
        final int[] x = new int[SPOTS];
        final int[] y = new int[SPOTS];
        // As told, so that a LAMP that grows again gives it back; 0 is off.
        final int[] deep = new int[SPOTS];
        final int[] told = new int[ROWS];
        final Script script = new Script();

        boolean has(int figure) {
            return figure >= 0 && figure < figures;
        }

        boolean isOn(int figure, int beat) {
            return figure >= 0 && figure < figures && beat >= 0 && beat < BEATS && deep[figure * BEATS + beat] > 0;
        }

        int depth(int figure, int beat) {
            return isOn(figure, beat) ? Math.min(deep[figure * BEATS + beat], term[LAMP]) : 0;
        }

        int onBits(int beat) {
            int bits = 0;
            for (int figure = 0; figure < figures; figure++) {
                if (isOn(figure, beat)) {
                    bits |= 1 << figure;
                }
            }
            return bits;
        }

        /** A PLAY may place FIGURES that come only later, so this asks for no FIGURE that is there. */
        void put(int figure, int beat, int column, int line, int depth) {
            if (figure < 0 || figure >= FIGURES || !isBeat(beat)) {
                return;
            }
            int spot = figure * BEATS + beat;
            x[spot] = column;
            y[spot] = line;
            deep[spot] = depth;
        }

        boolean stays(int figure, int beat) {
            if (beat == 0) {
                return true;
            }
            if (!isOn(figure, beat) || !isOn(figure, beat - 1)) {
                return false;
            }
            int spot = figure * BEATS + beat;
            return x[spot] == x[spot - 1] && y[spot] == y[spot - 1] && deep[spot] == deep[spot - 1];
        }

        int toldCells() {
            int cells = 0;
            for (int row = 0; row < ROWS; row++) {
                cells += Integer.bitCount(told[row]);
            }
            return cells;
        }

        void takeFrom(Scene from) {
            figures = from.figures;
            System.arraycopy(from.outlines, 0, outlines, 0, outlines.length);
            System.arraycopy(from.stickCount, 0, stickCount, 0, FIGURES);
            System.arraycopy(from.term, 0, term, 0, TERMS);
            System.arraycopy(from.x, 0, x, 0, SPOTS);
            System.arraycopy(from.y, 0, y, 0, SPOTS);
            System.arraycopy(from.deep, 0, deep, 0, SPOTS);
            System.arraycopy(from.told, 0, told, 0, ROWS);
            script.takeFrom(from.script);
        }
    }

    /** The laws of a PLAY as steps for a stack: the operation in four bits, what it needs above them. */
    private static final class Script {
        static final int CLAUSES = 24;
        // No TOKEN makes more than one of them.
        static final int STEPS = TAPE;

        static final int NUMBER = 0;
        static final int WORD = 1;
        static final int ADD = 2;
        static final int SUBTRACT = 3;
        static final int MULTIPLY = 4;
        static final int DIVIDE = 5;
        static final int BELOW = 6;
        static final int ABOVE = 7;
        static final int SAME = 8;
        static final int NOT = 9;
        static final int OR_ELSE = 10;
        static final int AND_THEN = 11;

        int clauses = 0;
        int laws = 0;
        int used = 0;
        final int[] heads = new int[CLAUSES];
        final int[] sumFrom = new int[CLAUSES];
        final int[] testFrom = new int[CLAUSES];
        final int[] lawEnd = new int[CLAUSES];
        final int[] steps = new int[STEPS];

        void clear() {
            clauses = 0;
            laws = 0;
            used = 0;
        }

        void add(int operation, int operand) {
            if (used < STEPS) {
                steps[used] = (operand << 4) | operation;
                used++;
            }
        }

        /** What is jumped over is known only when it has been read. */
        void jumpToHere(int step) {
            if (step >= 0 && step < used) {
                steps[step] = (used << 4) | (steps[step] & 15);
            }
        }

        void startLaw(int head) {
            if (laws < CLAUSES) {
                heads[laws] = head;
                sumFrom[laws] = used;
            }
        }

        void startTest() {
            if (laws < CLAUSES) {
                testFrom[laws] = used;
            }
        }

        void endLaw() {
            if (laws < CLAUSES) {
                lawEnd[laws] = used;
                laws++;
            }
        }

        void takeFrom(Script from) {
            clauses = from.clauses;
            laws = from.laws;
            used = from.used;
            System.arraycopy(from.heads, 0, heads, 0, CLAUSES);
            System.arraycopy(from.sumFrom, 0, sumFrom, 0, CLAUSES);
            System.arraycopy(from.testFrom, 0, testFrom, 0, CLAUSES);
            System.arraycopy(from.lawEnd, 0, lawEnd, 0, CLAUSES);
            System.arraycopy(from.steps, 0, steps, 0, STEPS);
        }
    }

    /** Reads a TEXT from left to right, one TOKEN ahead, so that the TOKEN it stops at is the FAULT. */
    private static final class Reader {
        // A single byte is its own TOKEN; the others are numbered above the bytes, words as they stand in WORDS.
        private static final String WORDS =
            "figure beat helper other x y deep sticks to at off pass slip bars if or and not ";
        private static final int END = 256;
        private static final int DIGITS = 257;
        private static final int UNKNOWN = 258;
        private static final int FIRST_WORD = 259;
        private static final int BEAT = 260;
        private static final int DEEP = 265;
        private static final int STICKS = 266;
        private static final int TO = 267;
        private static final int AT = 268;
        private static final int OFF = 269;
        private static final int FIRST_HEAD = 270;
        private static final int LAST_HEAD = 272;
        private static final int IF = 273;
        private static final int OR = 274;
        private static final int AND = 275;
        private static final int NOT = 276;

        // What binds more loosely comes ahead.
        private static final int TEST_LEVEL = 0;
        private static final int BOTH_LEVEL = 1;
        private static final int PLAIN_LEVEL = 2;
        private static final int SUM_LEVEL = 3;
        private static final int TERM_LEVEL = 4;

        private static final int PARTS = 50;
        private static final int BRACKETS = 8;
        private static final int MOVE = 6;
        private static final int TOO_MUCH = 100000;

        final Script script = new Script();
        int faultAt = NONE;
        private final int[] bytes = new int[TAPE];
        private final int[] moves = new int[Script.CLAUSES * MOVE];
        private int moveCount = 0;
        private int length = 0;
        private int token = END;
        private int start = 0;
        private int stop = 0;
        private int value = 0;
        private int parts = 0;

        boolean readText(int[] from, int size) {
            length = Math.max(0, Math.min(size, Math.min(TAPE, from.length)));
            System.arraycopy(from, 0, bytes, 0, length);
            script.clear();
            moveCount = 0;
            parts = 0;
            stop = 0;
            faultAt = NONE;
            advance();
            for (int k = 0; k < Script.CLAUSES; k++) {
                if (!readClause()) {
                    return false;
                }
                script.clauses = k + 1;
                if (token == END) {
                    return true;
                }
                if (!take(';')) {
                    return false;
                }
            }
            return fail();
        }

        /** The moves wait until the whole TEXT is taken, for a refused one changes nothing. */
        void tellMoves(Scene scene) {
            for (int k = 0; k < moveCount; k++) {
                int at = k * MOVE;
                for (int beat = moves[at]; beat <= moves[at + 1] && beat < BEATS; beat++) {
                    scene.put(moves[at + 2], beat, moves[at + 3], moves[at + 4], moves[at + 5]);
                }
            }
        }

        private boolean readClause() {
            if (token == BEAT) {
                return readMove();
            }
            if (token < FIRST_HEAD || token > LAST_HEAD) {
                return fail();
            }
            int head = PASS + token - FIRST_HEAD;
            advance();
            script.startLaw(head);
            if (head != BARS && !readLevel(SUM_LEVEL, 0)) {
                return false;
            }
            script.startTest();
            if (token == IF) {
                advance();
                if (!readLevel(TEST_LEVEL, 0)) {
                    return false;
                }
            }
            script.endLaw();
            return true;
        }

        private boolean readMove() {
            int at = moveCount * MOVE;
            if (at + MOVE > moves.length) {
                return fail();
            }
            advance();
            if (!takeNumber(0, BEATS - 1, at)) {
                return false;
            }
            moves[at + 1] = moves[at];
            if (token == TO) {
                advance();
                if (!takeNumber(moves[at], BEATS - 1, at + 1)) {
                    return false;
                }
            }
            if (!takeNumber(0, FIGURES - 1, at + 2)) {
                return false;
            }
            moveCount++;
            if (token == OFF) {
                Arrays.fill(moves, at + 3, at + MOVE, 0);
                advance();
                return true;
            }
            return take(AT) && takeNumber(0, COLUMNS - 1, at + 3) && take(',')
                && takeNumber(0, ROWS - 1, at + 4) && take(DEEP) && takeNumber(1, HIGHEST[LAMP], at + 5);
        }

        private boolean readLevel(int level, int depth) {
            if (level == PLAIN_LEVEL) {
                return readPlain(depth);
            }
            if (level > TERM_LEVEL) {
                return readPart(depth);
            }
            if (!readLevel(level + 1, depth)) {
                return false;
            }
            for (int k = 0; k < TAPE; k++) {
                int operation = operationAt(level);
                if (operation == NONE) {
                    return true;
                }
                // "or" and "and" stand between their sides, to leave out the second; the others behind both.
                int between = script.used;
                if (level < PLAIN_LEVEL) {
                    script.add(operation, 0);
                }
                advance();
                if (!readLevel(level + 1, depth)) {
                    return false;
                }
                if (level < PLAIN_LEVEL) {
                    script.jumpToHere(between);
                } else {
                    script.add(operation, 0);
                }
            }
            return true;
        }

        private int operationAt(int level) {
            switch (level) {
                case TEST_LEVEL:
                    return token == OR ? Script.OR_ELSE : NONE;
                case BOTH_LEVEL:
                    return token == AND ? Script.AND_THEN : NONE;
                case SUM_LEVEL:
                    return token == '+' ? Script.ADD : token == '-' ? Script.SUBTRACT : NONE;
                case TERM_LEVEL:
                    return token == '*' ? Script.MULTIPLY : token == '/' ? Script.DIVIDE : NONE;
                case PLAIN_LEVEL:
                    return token == '<' ? Script.BELOW
                        : token == '>' ? Script.ABOVE
                        : token == '=' ? Script.SAME
                        : NONE;
                default:
                    return NONE;
            }
        }

        private boolean readPlain(int depth) {
            // A row of "not" is counted, not gone into: it may be far longer than brackets are deep.
            boolean turned = false;
            for (int k = 0; k < TAPE && token == NOT; k++) {
                turned = !turned;
                advance();
            }
            boolean read = token == '(' ? readWithin(TEST_LEVEL, depth, ')') : readComparison(depth);
            if (read && turned) {
                script.add(Script.NOT, 0);
            }
            return read;
        }

        private boolean readComparison(int depth) {
            if (!readLevel(SUM_LEVEL, depth)) {
                return false;
            }
            int operation = operationAt(PLAIN_LEVEL);
            if (operation == NONE) {
                return fail();
            }
            advance();
            if (!readLevel(SUM_LEVEL, depth)) {
                return false;
            }
            script.add(operation, 0);
            return true;
        }

        private boolean readWithin(int level, int depth, int closing) {
            if (depth >= BRACKETS) {
                return fail();
            }
            advance();
            if (!readLevel(level, depth + 1)) {
                return false;
            }
            // Not by take(): calls would go nine deep from play() to the word that is read.
            if (token != closing) {
                return fail();
            }
            advance();
            return true;
        }

        private boolean readPart(int depth) {
            if (token == '[') {
                return readWithin(SUM_LEVEL, depth, ']');
            }
            boolean isNumber = token == DIGITS && value <= 1000;
            boolean isWord = token >= FIRST_WORD && token <= STICKS;
            if ((!isNumber && !isWord) || parts >= PARTS) {
                return fail();
            }
            parts++;
            if (isNumber) {
                script.add(Script.NUMBER, value);
            } else {
                script.add(Script.WORD, token - FIRST_WORD);
            }
            advance();
            return true;
        }

        private boolean fail() {
            faultAt = start;
            return false;
        }

        private boolean take(int wanted) {
            if (token != wanted) {
                return fail();
            }
            advance();
            return true;
        }

        private boolean takeNumber(int low, int high, int into) {
            if (token != DIGITS || value < low || value > high) {
                return fail();
            }
            moves[into] = value;
            advance();
            return true;
        }

        private void advance() {
            int at = stop;
            while (at < length && bytes[at] == ' ') {
                at++;
            }
            start = at;
            value = 0;
            while (at < length && bytes[at] >= '0' && bytes[at] <= '9') {
                // Beyond every bound it need only stay beyond, so it never runs over.
                value = Math.min(TOO_MUCH, value * 10 + bytes[at] - '0');
                at++;
            }
            stop = at;
            if (at > start) {
                token = DIGITS;
                return;
            }
            while (at < length && bytes[at] >= 'a' && bytes[at] <= 'z') {
                at++;
            }
            stop = at;
            if (at > start) {
                token = wordBetween(start, stop);
            } else if (at < length) {
                token = bytes[at];
                stop = at + 1;
            } else {
                token = END;
            }
        }

        private int wordBetween(int from, int to) {
            int number = FIRST_WORD;
            int at = from;
            boolean alike = true;
            for (int k = 0; k < WORDS.length(); k++) {
                char letter = WORDS.charAt(k);
                if (letter != ' ') {
                    alike = alike && at < to && bytes[at] == letter;
                    at++;
                } else if (alike && at == to) {
                    return number;
                } else {
                    number++;
                    at = from;
                    alike = true;
                }
            }
            return UNKNOWN;
        }
    }

    /** What the PLAY tells of a FIGURE on a BEAT. */
    private static final class Asker {
        // The words in the order in which the Reader numbers them.
        private static final int FIGURE = 0;
        private static final int BEAT = 1;
        private static final int HELPER = 2;
        private static final int OTHER = 3;
        private static final int X = 4;
        private static final int Y = 5;
        private static final int DEEP = 6;
        private static final int STICKS = 7;
        private static final int WORDS = 8;

        // No product of two values comes near it, so it can stand among them.
        private static final long BROKEN = 1L << 62;
        private static final int HEIGHT = 64;

        private final Scene scene;
        private final Script script;
        private final int[] words = new int[WORDS];
        private final long[] stack = new long[HEIGHT];

        Asker(Scene scene) {
            this.scene = scene;
            this.script = scene.script;
        }

        /** Of whom tellLast() is asked from now on. */
        void turnTo(int figure, int beat, int helper, int other) {
            if (!scene.isOn(figure, beat)) {
                return;
            }
            int spot = figure * BEATS + beat;
            words[FIGURE] = figure;
            words[BEAT] = beat;
            words[HELPER] = helper;
            words[OTHER] = other;
            words[X] = scene.x[spot];
            words[Y] = scene.y[spot];
            words[DEEP] = scene.depth(figure, beat);
            words[STICKS] = scene.stickCount[figure];
        }

        /** What a HEAD tells, or the nearest that can be; "bars" tells 1. */
        int tellLast(int head, int most, int without) {
            for (int law = script.laws - 1; law >= 0; law--) {
                int sumFrom = script.sumFrom[law];
                int testFrom = script.testFrom[law];
                int lawEnd = script.lawEnd[law];
                if (script.heads[law] != head || (testFrom < lawEnd && valueOf(testFrom, lawEnd) != 1L)) {
                    continue;
                }
                long told = head == BARS ? 1L : valueOf(sumFrom, testFrom);
                if (told != BROKEN) {
                    return (int) Math.max(0L, Math.min(most, told));
                }
            }
            return without;
        }

        private long valueOf(int from, int to) {
            int top = 0;
            int at = from;
            for (int k = 0; k < Script.STEPS && at >= 0 && at < to && at < Script.STEPS; k++) {
                int operation = script.steps[at] & 15;
                int operand = script.steps[at] >> 4;
                at++;
                if (operation == Script.NUMBER || operation == Script.WORD) {
                    if (top >= HEIGHT) {
                        return BROKEN;
                    }
                    stack[top] = operation == Script.NUMBER ? operand : words[operand & (WORDS - 1)];
                    top++;
                } else if (top < 1) {
                    return BROKEN;
                } else if (operation == Script.NOT) {
                    stack[top - 1] = 1L - stack[top - 1];
                } else if (operation == Script.OR_ELSE || operation == Script.AND_THEN) {
                    boolean settled = (stack[top - 1] == 1L) == (operation == Script.OR_ELSE);
                    at = settled ? operand : at;
                    top -= settled ? 0 : 1;
                } else if (top < 2) {
                    return BROKEN;
                } else {
                    top--;
                    long both = join(operation, stack[top - 1], stack[top]);
                    if (both > MOST || both < -MOST) {
                        return BROKEN;
                    }
                    stack[top - 1] = both;
                }
            }
            return top == 1 ? stack[0] : BROKEN;
        }

        private static long join(int operation, long left, long right) {
            switch (operation) {
                case Script.ADD:
                    return left + right;
                case Script.SUBTRACT:
                    return left - right;
                case Script.MULTIPLY:
                    return left * right;
                case Script.DIVIDE:
                    return right == 0L ? BROKEN : left / right;
                case Script.BELOW:
                    return left < right ? 1L : 0L;
                case Script.ABOVE:
                    return left > right ? 1L : 0L;
                case Script.SAME:
                    return left == right ? 1L : 0L;
                default:
                    return BROKEN;
            }
        }
    }

    /** SHADOWS as the LAMP makes them. */
    private static final class Light {
        private final Scene scene;

        Light(Scene scene) {
            this.scene = scene;
        }

        /** Where on the FIGURES' plane the middle of a CELL is lit through. */
        static int project(int cell, int deep, int lamp) {
            return (2 * cell + 1) * deep / Math.max(1, 2 * lamp);
        }

        int rowOf(int figure, int beat, int row) {
            if (!scene.isOn(figure, beat) || row < 0 || row >= ROWS) {
                return 0;
            }
            int spot = figure * BEATS + beat;
            int deep = scene.depth(figure, beat);
            int lamp = scene.term[LAMP];
            int b = project(row, deep, lamp) - scene.y[spot];
            if (b < 0 || b >= EDGE) {
                return 0;
            }
            int cells = scene.outlines[figure * EDGE + b];
            int bits = 0;
            for (int column = 0; column < COLUMNS && cells != 0; column++) {
                int a = project(column, deep, lamp) - scene.x[spot];
                if (a >= 0 && a < EDGE && (cells >> a & 1) == 1) {
                    bits |= 1 << column;
                }
            }
            return bits;
        }

        int rowOfAll(int beat, int row) {
            int bits = 0;
            for (int figure = 0; figure < FIGURES; figure++) {
                bits |= rowOf(figure, beat, row);
            }
            return bits;
        }

        int cellsInBoth(int one, int other, int beat) {
            int cells = 0;
            for (int row = 0; row < ROWS; row++) {
                cells += Integer.bitCount(rowOf(one, beat, row) & rowOf(other, beat, row));
            }
            return cells;
        }

        int hiddenCells(int figure, int beat) {
            int deep = scene.depth(figure, beat);
            int cells = 0;
            for (int row = 0; row < ROWS; row++) {
                int hiding = 0;
                for (int other = 0; other < FIGURES; other++) {
                    int otherDeep = scene.depth(other, beat);
                    if (otherDeep < deep || (otherDeep == deep && other < figure)) {
                        hiding |= rowOf(other, beat, row);
                    }
                }
                cells += Integer.bitCount(hiding & rowOf(figure, beat, row));
            }
            return cells;
        }

        int blur(int figure, int beat) {
            int deep = scene.depth(figure, beat);
            return deep < 1 ? NONE : 100 * scene.term[WIDE] * (scene.term[LAMP] - deep) / deep;
        }
    }

    /** Who can hold what on one BEAT: sets of FIGURES are bits, sets of these the bits of a long. */
    private static final class Hands {
        private final Scene scene;
        private final Asker asker;
        private final long[] can = new long[BEATS * HOLDERS];
        private final int[] ons = new int[BEATS];
        private final boolean[] looked = new boolean[BEATS];
        private final int[] apart = new int[FIGURES];
        private final int[][] ways = new int[2][SETS];
        private int doubleSticks = 0;

        Hands(Scene scene, Asker asker) {
            this.scene = scene;
            this.asker = asker;
        }

        void forget() {
            for (int beat = 0; beat < BEATS; beat++) {
                looked[beat] = false;
            }
        }

        /** Comes ahead of whatever else is asked of a BEAT. */
        void lookAt(int beat) {
            if (looked[beat]) {
                return;
            }
            looked[beat] = true;
            ons[beat] = scene.onBits(beat);
            doubleSticks = 0;
            for (int figure = 0; figure < FIGURES; figure++) {
                doubleSticks |= scene.stickCount[figure] == 2 ? 1 << figure : 0;
                apart[figure] = farFrom(figure, beat);
            }
            for (int holder = 0; holder < HOLDERS; holder++) {
                can[beat * HOLDERS + holder] = setsFor(holder, allowedFor(holder, beat));
            }
        }

        boolean canHold(int holder, int beat, int figures) {
            return (can[beat * HOLDERS + holder] >>> figures & 1L) == 1L;
        }

        int waysOfAll(int beat, int helpers) {
            int now = 0;
            Arrays.fill(ways[now], 0);
            ways[now][0] = 1;
            for (int holder = 0; holder < HOLDERS; holder++) {
                if (holder < helpers || holder == ON_HOOKS) {
                    spreadWays(can[beat * HOLDERS + holder], ons[beat], ways[now], ways[1 - now]);
                    now = 1 - now;
                }
            }
            return ways[now][ons[beat]];
        }

        int firstBarred(int helpers) {
            for (int beat = 0; beat < BEATS; beat++) {
                lookAt(beat);
                if ((reached(beat, helpers) >>> ons[beat] & 1L) == 0L) {
                    return beat;
                }
            }
            return NONE;
        }

        int coreAt(int beat, int helpers) {
            long reached = reached(beat, helpers);
            int core = ons[beat];
            for (int figure = 0; figure < FIGURES; figure++) {
                int without = core & ~(1 << figure);
                if ((reached >>> without & 1L) == 0L) {
                    core = without;
                }
            }
            return core;
        }

        /** All sets for which there is a HOLDING. */
        private long reached(int beat, int helpers) {
            long sets = 1L;
            for (int holder = 0; holder < HOLDERS; holder++) {
                if (holder < helpers || holder == ON_HOOKS) {
                    sets = spread(sets, can[beat * HOLDERS + holder], ons[beat]);
                }
            }
            return sets;
        }

        private static long spread(long sets, long more, int within) {
            long wider = 0L;
            for (int set = 0; set <= within; set++) {
                int part = set;
                for (int k = 0; k < SETS && (set & ~within) == 0; k++) {
                    if ((more >>> part & sets >>> (set ^ part) & 1L) == 1L) {
                        wider |= 1L << set;
                        break;
                    }
                    if (part == 0) {
                        break;
                    }
                    part = (part - 1) & set;
                }
            }
            return wider;
        }

        private static void spreadWays(long more, int within, int[] from, int[] to) {
            for (int set = 0; set <= within; set++) {
                int sum = 0;
                int part = set;
                for (int k = 0; k < SETS && (set & ~within) == 0; k++) {
                    if ((more >>> part & 1L) == 1L) {
                        sum += from[set ^ part];
                    }
                    if (part == 0) {
                        break;
                    }
                    part = (part - 1) & set;
                }
                to[set] = sum;
            }
        }

        private int farFrom(int figure, int beat) {
            int far = 0;
            for (int other = 0; other < FIGURES; other++) {
                if (scene.isOn(figure, beat) && scene.isOn(other, beat)) {
                    int across = Math.abs(scene.x[figure * BEATS + beat] - scene.x[other * BEATS + beat]);
                    int along = Math.abs(scene.depth(figure, beat) - scene.depth(other, beat));
                    far |= across > scene.term[REACH] || along > scene.term[ARM] ? 1 << other : 0;
                }
            }
            return far;
        }

        private int allowedFor(int holder, int beat) {
            int allowed = 0;
            for (int figure = 0; figure < FIGURES; figure++) {
                if ((ons[beat] >> figure & 1) == 0 || (holder == ON_HOOKS && !scene.stays(figure, beat))) {
                    continue;
                }
                asker.turnTo(figure, beat, holder, NONE);
                if (asker.tellLast(BARS, 1, 0) == 0) {
                    allowed |= 1 << figure;
                }
            }
            return allowed;
        }

        private long setsFor(int holder, int allowed) {
            long sets = 0L;
            for (int set = 0; set <= allowed; set++) {
                if ((set & ~allowed) != 0) {
                    continue;
                }
                boolean fits = holder == ON_HOOKS
                    ? Integer.bitCount(set) <= scene.term[HOOKS]
                    : handsSuffice(set) && isTogether(set);
                if (fits) {
                    sets |= 1L << set;
                }
            }
            return sets;
        }

        private boolean handsSuffice(int set) {
            int doubles = Integer.bitCount(set & doubleSticks);
            int singles = Integer.bitCount(set & ~doubleSticks);
            int free = doubles == 0 ? 2 : 0;
            return doubles <= 1 && singles <= free + scene.term[TEETH];
        }

        private boolean isTogether(int set) {
            for (int figure = 0; figure < FIGURES; figure++) {
                if ((set >> figure & 1) == 1 && (apart[figure] & set) != 0) {
                    return false;
                }
            }
            return true;
        }
    }

    /**
     * LEAST and its FIRST. A HOLDING is a number whose digits are the holders, the lowest FIGURE's the highest, so
     * that lower numbers are earlier ones; what is best from a BEAT on is found from the last BEAT back.
     */
    private static final class Planner {
        private static final int HOLDINGS = 4096;
        private static final int PAIRS = 16;
        // A cost stands above the count of its ways, so that lower longs are the cheaper ones.
        private static final int COST = 32;
        private static final long COUNT = 0xFFFFFFFFL;
        private static final int NO_COST = 1 << 20;
        private static final long NO_WAY = (long) NO_COST << COST;

        boolean ready = false;
        int leastCost = 0;
        int leastWays = 0;
        private final Scene scene;
        private final Asker asker;
        private final Hands hands;
        // Large, and many objects never need them: made when first asked for.
        private int[][] best = null;
        private long[][] work = null;
        private boolean found = false;
        private final int[] costs = new int[SPOTS * PAIRS];
        private final int[] ons = new int[BEATS + 1];
        private final int[] digits = new int[SPOTS];
        private final int[] held = new int[HOLDERS];
        private int now = 0;
        private int base = 0;

        Planner(Scene scene, Asker asker, Hands hands) {
            this.scene = scene;
            this.asker = asker;
            this.hands = hands;
        }

        boolean findLeast() {
            if (ready) {
                return found;
            }
            ready = true;
            found = hands.firstBarred(scene.term[HELPERS]) == NONE;
            if (!found) {
                return false;
            }
            if (best == null || work == null) {
                best = new int[BEATS][HOLDINGS];
                work = new long[2][HOLDINGS];
            }
            // Without HOOKS nobody needs their digit, and the numbers stay small.
            base = scene.term[HELPERS] + (scene.term[HOOKS] > 0 ? 1 : 0);
            for (int beat = 0; beat < BEATS; beat++) {
                ons[beat] = scene.onBits(beat);
            }
            fillCosts();
            now = 0;
            work[now][0] = 1L;
            for (int beat = BEATS - 1; beat >= 0; beat--) {
                carryBack(beat);
                keepHoldings(beat);
            }
            sumUp();
            followFirst();
            return found;
        }

        int holderAt(int figure, int beat) {
            return scene.isOn(figure, beat) ? holderOf(digits[figure * BEATS + beat]) : NONE;
        }

        int passesOf(int figure) {
            int passes = 0;
            for (int beat = 1; beat < BEATS; beat++) {
                int from = holderAt(figure, beat - 1);
                int to = holderAt(figure, beat);
                passes += from != NONE && to != NONE && from != to ? 1 : 0;
            }
            return passes;
        }

        private int holderOf(int digit) {
            return digit < scene.term[HELPERS] ? digit : ON_HOOKS;
        }

        private int sizeOf(int figures) {
            int size = 1;
            for (int k = Integer.bitCount(figures); k > 0; k--) {
                size *= base;
            }
            return Math.min(size, HOLDINGS);
        }

        private static int costAt(int figure, int beat, int from, int to) {
            return (figure * BEATS + beat) * PAIRS + from * HOLDERS + to;
        }

        private void fillCosts() {
            Arrays.fill(costs, 0);
            for (int beat = 1; beat < BEATS; beat++) {
                int both = ons[beat] & ons[beat - 1];
                for (int figure = 0; figure < FIGURES; figure++) {
                    for (int pair = 0; pair < PAIRS && (both >> figure & 1) == 1; pair++) {
                        int from = pair / HOLDERS;
                        int to = pair % HOLDERS;
                        if (from != to && from < base && to < base) {
                            asker.turnTo(figure, beat, holderOf(from), holderOf(to));
                            costs[costAt(figure, beat, from, to)] = asker.tellLast(PASS, 9, 1);
                        }
                    }
                }
            }
        }

        /**
         * From what is best behind each HOLDING of the next BEAT to what is best behind each number of this one, FIGURE
         * by FIGURE: what is PASSED is a sum over FIGURES, so no pair of HOLDINGS need be looked at.
         */
        private void carryBack(int beat) {
            int outer = 1;
            for (int figure = 0; figure < FIGURES; figure++) {
                boolean here = (ons[beat] >> figure & 1) == 1;
                boolean next = (ons[beat + 1] >> figure & 1) == 1;
                if (!here && !next) {
                    continue;
                }
                int inner = sizeOf(ons[beat + 1] >> (figure + 1));
                int row = here && next ? costAt(figure, beat + 1, 0, 0) : NONE;
                mix(outer, inner, here ? base : 1, next ? base : 1, row);
                now = 1 - now;
                outer *= here ? base : 1;
            }
        }

        private void mix(int outer, int inner, int outs, int ins, int row) {
            long[] from = work[now];
            long[] to = work[1 - now];
            if (outer * outs * inner > HOLDINGS || outer * ins * inner > HOLDINGS) {
                return;
            }
            for (int o = 0; o < outer; o++) {
                for (int out = 0; out < outs; out++) {
                    int into = (o * outs + out) * inner;
                    for (int in = 0; in < ins; in++) {
                        int source = (o * ins + in) * inner;
                        long cost = row == NONE ? 0L : (long) costs[row + out * HOLDERS + in] << COST;
                        for (int i = 0; i < inner; i++) {
                            long way = from[source + i] + cost;
                            to[into + i] = in == 0 ? way : either(to[into + i], way);
                        }
                    }
                }
            }
        }

        private static long either(long one, long other) {
            if (one >> COST != other >> COST) {
                return Math.min(one, other);
            }
            return (one >> COST << COST) | Math.min(MOST, (one & COUNT) + (other & COUNT));
        }

        private void keepHoldings(int beat) {
            int size = sizeOf(ons[beat]);
            Arrays.fill(work[1 - now], 0, size, NO_WAY);
            Arrays.fill(best[beat], 0, size, NO_COST);
            Arrays.fill(held, 0);
            give(0, beat, 0);
            now = 1 - now;
        }

        private void give(int figure, int beat, int number) {
            if (figure >= FIGURES) {
                if (number < HOLDINGS) {
                    work[1 - now][number] = work[now][number];
                    best[beat][number] = (int) (work[now][number] >> COST);
                }
                return;
            }
            if ((ons[beat] >> figure & 1) == 0) {
                give(figure + 1, beat, number);
                return;
            }
            for (int digit = 0; digit < base; digit++) {
                int holder = holderOf(digit);
                int had = held[holder];
                int has = had | 1 << figure;
                // Whoever can't hold some can't hold more, so nothing is lost by turning back here.
                if (hands.canHold(holder, beat, has)) {
                    held[holder] = has;
                    give(figure + 1, beat, number * base + digit);
                    held[holder] = had;
                }
            }
        }

        private void sumUp() {
            long all = NO_WAY;
            int size = sizeOf(ons[0]);
            for (int number = 0; number < size; number++) {
                all = either(all, work[now][number]);
            }
            found = all < NO_WAY;
            leastCost = (int) (all >> COST);
            leastWays = (int) (all & COUNT);
        }

        private void followFirst() {
            int left = leastCost;
            for (int beat = 0; beat < BEATS && found; beat++) {
                int size = sizeOf(ons[beat]);
                for (int number = 0; number < size; number++) {
                    if (best[beat][number] <= left && best[beat][number] + passTo(beat, number) == left) {
                        left = best[beat][number];
                        break;
                    }
                }
            }
        }

        /** Writes the digits of a HOLDING, and tells what is PASSED to it from the one that was written ahead. */
        private int passTo(int beat, int number) {
            int rest = number;
            int cost = 0;
            for (int figure = FIGURES - 1; figure >= 0 && base > 0; figure--) {
                if ((ons[beat] >> figure & 1) == 0) {
                    continue;
                }
                int spot = figure * BEATS + beat;
                digits[spot] = rest % base;
                rest /= base;
                if (beat > 0 && (ons[beat - 1] >> figure & 1) == 1) {
                    cost += costs[costAt(figure, beat, digits[spot - 1], digits[spot])];
                }
            }
            return cost;
        }
    }

    /** The told SHEET's CELLS, numbered so that a part of them is a long, and where places at each DEEP would spill. */
    private static final class Target {
        static final int CELLS = 64;
        static final int DEEPEST = 8;

        int cells = 0;
        long full = 0L;
        int deepest = 0;
        final int[] columns = new int[CELLS];
        final int[] rows = new int[CELLS];
        // By DEEP: the column and the row on the plane that each of the SHEET's lights, and what must stay free.
        final int[][] planeColumn = new int[DEEPEST + 1][COLUMNS];
        final int[][] planeRow = new int[DEEPEST + 1][ROWS];
        final int[][] spill = new int[DEEPEST + 1][ROWS];

        void lookAt(Scene scene) {
            cells = 0;
            for (int row = 0; row < ROWS; row++) {
                for (int column = 0; column < COLUMNS; column++) {
                    if ((scene.told[row] >>> column & 1) == 1 && cells < CELLS) {
                        columns[cells] = column;
                        rows[cells] = row;
                        cells++;
                    }
                }
            }
            full = cells == CELLS ? -1L : (1L << cells) - 1;
            deepest = Math.min(DEEPEST, scene.term[LAMP]);
            for (int deep = 1; deep <= deepest; deep++) {
                lookFrom(scene, deep);
            }
        }

        private void lookFrom(Scene scene, int deep) {
            int lamp = scene.term[LAMP];
            for (int column = 0; column < COLUMNS; column++) {
                planeColumn[deep][column] = Light.project(column, deep, lamp);
            }
            Arrays.fill(spill[deep], 0);
            for (int row = 0; row < ROWS; row++) {
                int at = Light.project(row, deep, lamp);
                planeRow[deep][row] = at;
                for (int column = 0; column < COLUMNS; column++) {
                    if ((scene.told[row] >>> column & 1) == 0 && at < ROWS) {
                        spill[deep][at] |= 1 << planeColumn[deep][column];
                    }
                }
            }
        }
    }

    /** The SHADOWS that one FIGURE can make within the told SHEET, each once, by the first place that makes it. */
    private static final class Prints {
        // Places that light anything, over all DEEP at the LAMP where there are most of them.
        static final int MANY = 1632;
        static final int WORDS = 26;

        int amount = 0;
        int widest = 0;
        long union = 0L;
        final long[] masks = new long[MANY];
        final int[] places = new int[MANY];
        // For each CELL the SHADOWS that have it, 64 in a long, and how many these are.
        final long[] having = new long[Target.CELLS * WORDS];
        final int[] havingCount = new int[Target.CELLS];
        private final int[] firstWith = new int[Target.CELLS];
        private final int[] nextWith = new int[MANY];

        void gather(Scene scene, int figure, Target target) {
            amount = 0;
            widest = 0;
            union = 0L;
            Arrays.fill(firstWith, NONE);
            Arrays.fill(having, 0L);
            Arrays.fill(havingCount, 0);
            for (int deep = 1; deep <= target.deepest; deep++) {
                int columns = Math.min(COLUMNS, target.planeColumn[deep][COLUMNS - 1] + 1);
                int rows = Math.min(ROWS, target.planeRow[deep][ROWS - 1] + 1);
                for (int x = 0; x < columns; x++) {
                    for (int y = 0; y < rows; y++) {
                        if (staysWithin(scene, figure, target, deep, x, y)) {
                            add(maskAt(scene, figure, target, deep, x, y), (deep * COLUMNS + x) * ROWS + y);
                        }
                    }
                }
            }
        }

        private static boolean staysWithin(Scene scene, int figure, Target target, int deep, int x, int y) {
            int last = Math.min(COLUMNS - 1, target.planeColumn[deep][COLUMNS - 1]);
            int visible = -1 >>> (COLUMNS - 1 - last);
            int rows = Math.min(ROWS, target.planeRow[deep][ROWS - 1] + 1);
            int any = 0;
            for (int b = 0; b < EDGE && y + b < rows; b++) {
                int bits = scene.outlines[figure * EDGE + b] << x & visible;
                if ((bits & target.spill[deep][y + b]) != 0) {
                    return false;
                }
                any |= bits;
            }
            return any != 0;
        }

        private static long maskAt(Scene scene, int figure, Target target, int deep, int x, int y) {
            long mask = 0L;
            for (int cell = 0; cell < target.cells; cell++) {
                int a = target.planeColumn[deep][target.columns[cell]] - x;
                int b = target.planeRow[deep][target.rows[cell]] - y;
                if (a >= 0 && a < EDGE && b >= 0 && b < EDGE && (scene.outlines[figure * EDGE + b] >> a & 1) == 1) {
                    mask |= 1L << cell;
                }
            }
            return mask;
        }

        private void add(long mask, int place) {
            if (mask == 0L || amount >= MANY) {
                return;
            }
            int lowest = Long.numberOfTrailingZeros(mask);
            int at = firstWith[lowest];
            for (int k = 0; k < MANY && at != NONE; k++) {
                if (masks[at] == mask) {
                    return;
                }
                at = nextWith[at];
            }
            nextWith[amount] = firstWith[lowest];
            firstWith[lowest] = amount;
            masks[amount] = mask;
            places[amount] = place;
            for (int cell = 0; cell < Target.CELLS; cell++) {
                if ((mask >>> cell & 1L) == 1L) {
                    having[cell * WORDS + (amount >> 6)] |= 1L << (amount & 63);
                    havingCount[cell]++;
                }
            }
            union |= mask;
            widest = Math.max(widest, Long.bitCount(mask));
            amount++;
        }
    }

    /** MADE: all ways for a CAST, and the first with the fewest. */
    private static final class Maker {
        private static final int TOGETHER = 3;

        int fewestFigures = NONE;
        private final Scene scene;
        private final Target target = new Target();
        // Large, and many objects never need them: each is made when first asked for.
        private final Prints[] prints = new Prints[FIGURES];
        private final boolean[] gathered = new boolean[FIGURES];
        private final int[] chosen = new int[FIGURES];
        private final int[] trying = new int[TOGETHER];
        private int cast = NONE;
        private boolean looked = false;
        private long ways = 0L;
        private int firstSet = 0;
        private int second = 0;
        private int third = 0;
        private int filling = 0;

        Maker(Scene scene) {
            this.scene = scene;
        }

        void forget() {
            cast = NONE;
            looked = false;
            for (int figure = 0; figure < FIGURES; figure++) {
                gathered[figure] = false;
            }
        }

        void solve(int asked) {
            if (asked == cast) {
                return;
            }
            cast = asked;
            if (!looked) {
                target.lookAt(scene);
                looked = true;
            }
            firstSet = 0;
            ways = target.cells == 0 ? 1L : 0L;
            fewestFigures = target.cells == 0 ? 0 : NONE;
            if (target.cells > 0) {
                gatherCast();
                // Sets in the order of their numbers: of those alike in size the first that does is the one to tell.
                for (int set = 1; set < SETS; set++) {
                    if ((set & ~cast) == 0 && Integer.bitCount(set) <= TOGETHER) {
                        trySet(set);
                    }
                }
            }
        }

        int wayCount() {
            return (int) Math.min(MOST, ways);
        }

        int tellOf(int figure, int what) {
            boolean within = (firstSet >> figure & 1) == 1;
            if (what == 0) {
                return within ? 1 : 0;
            }
            if (!within) {
                return NONE;
            }
            int place = chosen[figure];
            return what == 1 ? place / ROWS % COLUMNS : what == 2 ? place % ROWS : place / (ROWS * COLUMNS);
        }

        private void gatherCast() {
            for (int figure = 0; figure < FIGURES; figure++) {
                if ((cast >> figure & 1) == 1 && !gathered[figure]) {
                    if (prints[figure] == null) {
                        prints[figure] = new Prints();
                    }
                    prints[figure].gather(scene, figure, target);
                    gathered[figure] = true;
                }
            }
        }

        private void trySet(int set) {
            int size = 0;
            for (int figure = 0; figure < FIGURES && size < TOGETHER; figure++) {
                if ((set >> figure & 1) == 1) {
                    trying[size] = figure;
                    size++;
                }
            }
            Prints one = prints[trying[0]];
            Prints two = size > 1 ? prints[trying[1]] : null;
            Prints three = size > 2 ? prints[trying[2]] : null;
            if (one == null) {
                return;
            }
            if (two == null) {
                trySingle(set, one);
            } else if (three == null) {
                tryPair(set, one, two);
            } else {
                tryTriple(set, one, two, three);
            }
        }

        private boolean isBetter(int set) {
            return fewestFigures == NONE || Integer.bitCount(set) < fewestFigures;
        }

        private void choose(int set) {
            firstSet = set;
            fewestFigures = Integer.bitCount(set);
        }

        private void trySingle(int set, Prints one) {
            for (int i = 0; i < one.amount; i++) {
                if (one.masks[i] == target.full) {
                    ways++;
                    if (isBetter(set)) {
                        choose(set);
                        chosen[trying[0]] = one.places[i];
                    }
                }
            }
        }

        private void tryPair(int set, Prints one, Prints two) {
            for (int i = 0; i < one.amount; i++) {
                long a = one.masks[i];
                long rest = target.full & ~a;
                if (rest == 0L) {
                    continue;
                }
                long found = countFilling(two, rest, a, a, NONE);
                ways += found;
                if (found > 0L && isBetter(set)) {
                    choose(set);
                    chosen[trying[0]] = one.places[i];
                    chosen[trying[1]] = two.places[filling];
                }
            }
        }

        private void tryTriple(int set, Prints one, Prints two, Prints three) {
            for (int i = 0; i < one.amount; i++) {
                long a = one.masks[i];
                long rest = target.full & ~a;
                if (rest == 0L || (rest & ~(two.union | three.union)) != 0L) {
                    continue;
                }
                if (Long.bitCount(rest) > two.widest + three.widest) {
                    continue;
                }
                second = Prints.MANY;
                third = Prints.MANY;
                // Some CELL of the rest is had by the second, or, if not, by the third: few pairs need be looked at.
                int cell = rarestCell(rest, two, three);
                long found = countBeside(two, three, a, cell, false) + countBeside(three, two, a, cell, true);
                ways += found;
                if (found > 0L && isBetter(set)) {
                    choose(set);
                    chosen[trying[0]] = one.places[i];
                    chosen[trying[1]] = two.places[second];
                    chosen[trying[2]] = three.places[third];
                }
            }
        }

        private static int rarestCell(long rest, Prints two, Prints three) {
            int rarest = Long.numberOfTrailingZeros(rest) & (Target.CELLS - 1);
            for (int cell = rarest; cell < Target.CELLS; cell++) {
                if ((rest >>> cell & 1L) == 1L && two.havingCount[cell] + three.havingCount[cell]
                    < two.havingCount[rarest] + three.havingCount[rarest]) {
                    rarest = cell;
                }
            }
            return rarest;
        }

        /** Pairs beside a SHADOW: one that has the CELL, one that fills what is left; if turned, this one lacks it. */
        private long countBeside(Prints near, Prints far, long a, int cell, boolean turned) {
            long found = 0L;
            for (int n = 0; n < near.amount; n++) {
                long b = near.masks[n];
                long open = target.full & ~(a | b);
                if ((b >>> cell & 1L) == 0L || open == 0L) {
                    continue;
                }
                long filled = countFilling(far, open, a & ~b, b & ~a, turned ? cell : NONE);
                if (filled > 0L) {
                    found += filled;
                    keepFirst(turned ? filling : n, turned ? n : filling);
                }
            }
            return found;
        }

        private void keepFirst(int two, int three) {
            if (two < second || (two == second && three < third)) {
                second = two;
                third = three;
            }
        }

        /** How many SHADOWS have all that is open and leave the others CELLS of their own; the first is kept. */
        private long countFilling(Prints from, long open, long ownOne, long ownTwo, int lacking) {
            long found = 0L;
            if ((open & ~from.union) != 0L || Long.bitCount(open) > from.widest) {
                return found;
            }
            for (int word = 0; word << 6 < from.amount && word < Prints.WORDS; word++) {
                long some = lacking == NONE ? -1L : ~from.having[lacking * Prints.WORDS + word];
                long cells = open;
                for (int k = 0; k < Target.CELLS && cells != 0L && some != 0L; k++) {
                    some &= from.having[Long.numberOfTrailingZeros(cells) * Prints.WORDS + word];
                    cells &= cells - 1L;
                }
                for (int k = 0; k < Target.CELLS && some != 0L; k++) {
                    int at = (word << 6) + Long.numberOfTrailingZeros(some);
                    some &= some - 1L;
                    if (at < from.amount && (ownOne & ~from.masks[at]) != 0L && (ownTwo & ~from.masks[at]) != 0L) {
                        filling = found == 0L ? at : filling;
                        found++;
                    }
                }
            }
            return found;
        }
    }
}
