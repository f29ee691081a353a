/** Promises 1 to 34 of the document, word by word: the edges and the wrong inputs that each of them names. */
public final class EdgesTest extends Bench {
    private static final int[] NO_FIGURES = {-1, -2, 2, 5, 6, 32, LOW, HIGH};
    private static final int[] NO_BEATS = {-1, 12, LOW, HIGH};
    private static final int[] BLANKS = {0x20202020, 0x20202020, 0x20202020, 0x20202020, 0x20202020};

    public static void main(String[] args) {
        newObject();
        figure();
        sticks();
        terms();
        on();
        off();
        of();
        feed();
        end();
        row();
        torn();
        outline();
        play();
        fault();
        shadow();
        seen();
        common();
        holds();
        holdings();
        least();
        holder();
        passed();
        fewest();
        barred();
        made();
        who();
        sheet();
        copy();
        show();
        slipped();
        image();
        back();
        count();
        status();
        allSaid("The constants:", "## Not promised");
        finish();
    }

    private static void newObject() {
        says("The constants: `NONE = -1`: There is none.");
        due("NONE", ClothPlay.NONE, -1);
        says("`ClothPlay()`: No FIGURES, no PLAY, an empty told SHEET.");
        ClothPlay p = new ClothPlay();
        due("no figures", p.count(0), 0);
        due("none to be on", p.on(0, 0, 0, 0, 1), -2);
        due("no play", new ClothPlay().count(1), 0);
        due("no sheet", p.count(5), 0);
        for (int r = 0; r < 16; r++) {
            due("row " + r, p.sheet(r), 0);
        }
        due("no tape", p.count(6), 0);
        due("nobody on", p.count(2) + p.count(3) + p.count(4), 0);
        due("no image 0", p.back(0), -2);
        due("no image 1", p.back(1), -2);
        ClothPlay other = new ClothPlay();
        other.figure(1);
        told(other, 7);
        due("objects are apart", p.count(0) + p.count(5), 0);
    }

    private static void figure() {
        says("`int figure(int sticks)`: A FIGURE: its number. -1; -5.");
        ClothPlay p = new ClothPlay();
        for (int bad : new int[] {LOW, -1, 0, 3, HIGH}) {
            due("with " + bad, p.figure(bad), -1);
        }
        due("none came", p.count(0), 0);
        for (int k = 0; k < 6; k++) {
            due("number", p.figure(1 + k % 2), k);
        }
        due("full", p.figure(2), -5);
        due("full and wrong", p.figure(3), -1);
        due("six stay", p.count(0), 6);
        p = new ClothPlay();
        play(p, "beat 0 0 at 0,0 deep 1");
        due("nobody is on yet", p.least(1), 1);
        p.figure(1);
        due("whom the play told is on", p.least(1), 3);
    }

    private static void sticks() {
        says("`int sticks(int figure, int sticks)`: STICKS of a FIGURE: what it was. -1; -2.");
        ClothPlay p = with(1, 2);
        due("first", p.sticks(0, 2), 1);
        due("second", p.sticks(1, 2), 2);
        for (int none : NO_FIGURES) {
            due("of " + none, p.sticks(none, 1), -2);
            due("of " + none + " and wrong", p.sticks(none, 0), -1);
        }
        due("wrong", p.sticks(0, 3), -1);
        due("as it was", p.sticks(0, 1), 2);
        p.on(0, 0, 0, 0, 1);
        p.on(1, 0, 0, 0, 1);
        due("two hands are not enough", p.holds(0, 0, 3), 0);
        p.sticks(1, 1);
        due("now they are", p.holds(0, 0, 3), 1);
    }

    private static void terms() {
        says("`int terms(int what, int value)`: A TERM: what it was. -1.");
        ClothPlay p = new ClothPlay();
        for (int what : new int[] {-1, 7, 8, LOW, HIGH}) {
            due("what " + what, p.terms(what, 1), -1);
        }
        int[] was = {8, 1, 3, 0, 0, 8, 8};
        for (int what = 0; what < 7; what++) {
            due("a value that can't be", p.terms(what, 33), -1);
            due("what it was", p.terms(what, 2 - (what == 3 ? 1 : 0)), was[what]);
            due("what it is", p.terms(what, 2 - (what == 3 ? 1 : 0)), 2 - (what == 3 ? 1 : 0));
        }
    }

    private static void on() {
        says("`int on(int figure, int beat, int x, int y, int deep)`: A FIGURE is on on a BEAT at X, Y, DEEP: 0."
            + " -1 (DEEP 1 .. 32); -2.");
        ClothPlay p = with(1, 1);
        due("deep 32 by a lamp at 8", p.on(0, 0, 0, 0, 32), 0);
        due("deep 1", p.on(1, 11, 31, 15, 1), 0);
        due("deep 33", p.on(0, 0, 1, 1, 33), -1);
        due("deep 0", p.on(0, 0, 1, 1, 0), -1);
        for (int none : NO_FIGURES) {
            due("figure " + none, p.on(none, 0, 0, 0, 1), -2);
            due("figure " + none + ", deep 33", p.on(none, 0, 0, 0, 33), -1);
        }
        for (int beat : NO_BEATS) {
            due("beat " + beat, p.on(0, beat, 0, 0, 1), -1);
        }
        due("where it was", p.of(0, 0, 1), 0);
        due("elsewhere then", p.on(0, 0, 9, 8, 7), 0);
        due("x", p.of(0, 0, 1), 9);
        due("two", p.count(2), 2);
    }

    private static void off() {
        says("`int off(int figure, int beat)`: A FIGURE is off on a BEAT: whether it was on (1, 0). -1; -2.");
        ClothPlay p = with(1, 1);
        p.on(0, 0, 0, 0, 1);
        p.on(0, 11, 0, 0, 1);
        due("was on", p.off(0, 0), 1);
        due("was off", p.off(0, 0), 0);
        due("never on", p.off(1, 5), 0);
        due("the other beat is", p.off(0, 11), 1);
        for (int none : NO_FIGURES) {
            due("figure " + none, p.off(none, 0), -2);
            due("figure " + none + ", beat 12", p.off(none, 12), -1);
        }
        for (int beat : NO_BEATS) {
            due("beat " + beat, p.off(0, beat), -1);
        }
        due("nobody on", p.count(2), 0);
    }

    private static void of() {
        says("`int of(int figure, int beat, int what)`: Of a FIGURE on a BEAT: whether it is on (what 0), X (1), Y (2),"
            + " DEEP as it counts (3). NONE (off, but for 0, too).");
        ClothPlay p = with(1, 1);
        p.on(0, 2, 7, 5, 20);
        int[] on = {1, 7, 5, 8};
        int[] off = {0, NONE, NONE, NONE};
        for (int what = 0; what < 4; what++) {
            due("on, what " + what, p.of(0, 2, what), on[what]);
            due("off, what " + what, p.of(0, 3, what), off[what]);
            due("never on, what " + what, p.of(1, 2, what), off[what]);
            for (int none : NO_FIGURES) {
                due("figure " + none, p.of(none, 2, what), NONE);
            }
            for (int beat : NO_BEATS) {
                due("beat " + beat, p.of(0, beat, what), NONE);
            }
        }
        for (int what : new int[] {-1, 4, LOW, HIGH}) {
            due("what " + what, p.of(0, 2, what), NONE);
            due("off, what " + what, p.of(0, 3, what), NONE);
        }
        p.on(1, 11, 31, 15, 1);
        int[] last = {1, 31, 15, 1};
        for (int what = 0; what < 4; what++) {
            due("another figure and beat, what " + what, p.of(1, 11, what), last[what]);
            due("the first as it was, what " + what, p.of(0, 2, what), on[what]);
            due("its last beat, what " + what, p.of(0, 11, what), off[what]);
        }
        due("never refused", p.count(7) + p.count(8), 0);
    }

    private static void feed() {
        says("`int feed(int a, int b, int c, int d, int e)`: Twenty bytes come behind the TAPE, four of each number,"
            + " the highest first: how many it has. NONE, if there would be more than 400.");
        ClothPlay p = with(1);
        p.feed(0x01020384, 0xff000607, LOW, HIGH, -1);
        p.end(8);
        p.row(0);
        int[] rows = {1, 2, 3, 0x84, 0xff, 0, 6, 7};
        for (int j = 0; j < 8; j++) {
            due("byte " + j, p.outline(0, j), rows[j]);
        }
        p.feed(LOW, HIGH, -1, 0, 1);
        p.row(NONE);
        int[] words = {LOW, HIGH, -1, 0, 1};
        for (int k = 0; k < 5; k++) {
            due("number " + k, p.sheet(k), words[k]);
        }
        for (int k = 1; k <= 20; k++) {
            due("how many", p.feed(k, 0, 0, 0, 0), 20 * k);
        }
        due("full", p.feed(99, 0, 0, 0, 0), NONE);
        due("as it was", p.count(6), 400);
        p.end(381);
        due("401", p.feed(99, 0, 0, 0, 0), NONE);
        due("381 stay", p.count(6), 381);
        p.end(380);
        due("400", p.feed(99, 0, 0, 0, 0), 400);
        due("no refusal", p.status(), 0);
        due("none counted", p.count(7), 0);
        p.end(0);
        p.feed(0x01000000, 0, 0, 0, 0);
        p.end(1);
        due("behind what is left", p.feed(0x02030405, 0, 0, 0, 0), 21);
        p.row(0);
        due("the first", p.outline(0, 0), 1);
        due("the next", p.outline(0, 1), 2);
        due("and on", p.outline(0, 4), 5);
    }

    private static void end() {
        says("`int end(int n)`: The TAPE has its first n bytes alone: n. NONE, if it has not so many, or n is below 0.");
        ClothPlay p = with(1);
        due("0 of none", p.end(0), 0);
        due("1 of none", p.end(1), NONE);
        p.feed(0x01010101, 0x01010101, 0, 0, 0);
        due("21 of 20", p.end(21), NONE);
        due("all", p.end(20), 20);
        for (int n : new int[] {-1, LOW, HIGH}) {
            due("" + n, p.end(n), NONE);
        }
        due("20 stay", p.count(6), 20);
        due("3", p.end(3), 3);
        due("4 of 3", p.end(4), NONE);
        due("the first three", p.row(0), 3);
        due("no refusal", p.status(), 0);
        p.feed(0, 0, 0, 0, 0);
        due("none left", p.end(0), 0);
        due("an empty tape", p.row(0), -6);
    }

    private static void row() {
        says("`int row(int figure)`: A ROW, the TAPE is empty then (not if -2): the OUTLINE of a FIGURE, the told SHEET"
            + " (figure NONE): how many cells it has. -2; -6 the TAPE is empty.");
        ClothPlay p = with(1, 1);
        due("empty", p.row(0), -6);
        due("empty, sheet", p.row(NONE), -6);
        for (int none : NO_FIGURES) {
            if (none != NONE) {
                due("empty, figure " + none, p.row(none), -2);
                p.feed(-1, -1, 0, 0, 0);
                due("figure " + none, p.row(none), -2);
                due("the tape stays", p.count(6), 20);
                p.end(0);
            }
        }
        p.feed(-1, -1, 0, 0, 0);
        due("a full outline", p.row(1), 64);
        due("the tape is empty", p.count(6), 0);
        due("not the other's", p.outline(0, 0), 0);
        due("not the sheet's", p.count(5), 0);
        p.feed(0, 0, 0, 0, 0);
        due("an empty outline", p.row(1), 0);
        p.feed(-1, -1, -1, -1, 1);
        due("a sheet", p.row(NONE), 129);
        due("the tape is empty again", p.count(6), 0);
        due("its cells", p.count(5), 129);
        due("-6 leaves it", p.row(NONE), -6);
        due("as it was", p.count(5), 129);
    }

    private static void torn() {
        says("`int torn()`: How many bytes were TORN in the latest row() that was not REFUSED (0 ahead of any).");
        ClothPlay p = with(1);
        due("ahead of any", p.torn(), 0);
        p.row(0);
        due("ahead of any that was not refused", p.torn(), 0);
        p.feed(0, 0, 0, 0, 0);
        p.row(0);
        due("twelve", p.torn(), 12);
        p.row(0);
        p.row(9);
        p.play();
        due("refused ones leave it", p.torn(), 12);
        p.feed(0, 0, 0, 0, 0);
        p.row(NONE);
        due("none", p.torn(), 0);
        bytes(p, new int[400]);
        p.row(NONE);
        due("of a full tape, sheet", p.torn(), 336);
        bytes(p, new int[400]);
        p.row(0);
        due("of a full tape, outline", p.torn(), 392);
    }

    private static void outline() {
        says("`int outline(int figure, int j)`: Row j 0 .. 7 of the OUTLINE of a FIGURE, as bits. NONE.");
        ClothPlay p = with(1, 1);
        outline(p, 1, 255, 1, 2, 3, 4, 5, 6, 128);
        int[] rows = {255, 1, 2, 3, 4, 5, 6, 128};
        for (int j = 0; j < 8; j++) {
            due("row " + j, p.outline(1, j), rows[j]);
            due("of the other", p.outline(0, j), 0);
        }
        for (int j : new int[] {-1, 8, LOW, HIGH}) {
            due("row " + j, p.outline(1, j), NONE);
            due("row " + j + " of the first", p.outline(0, j), NONE);
        }
        for (int none : NO_FIGURES) {
            due("figure " + none, p.outline(none, 0), NONE);
        }
    }

    private static void play() {
        says("`int play()`: The TAPE, which is empty then, becomes the PLAY: how many CLAUSES."
            + " -6 (blanks alone: FAULT at the end; the one before stays).");
        ClothPlay p = with(1);
        due("clauses", play(p, "beat 0 0 at 1,1 deep 1;slip 100"), 2);
        due("the tape is empty", p.count(6), 0);
        due("empty", p.play(), -6);
        due("fault at its end", p.fault(), 0);
        p.feed(BLANKS[0], BLANKS[1], BLANKS[2], BLANKS[3], BLANKS[4]);
        due("blanks", p.play(), -6);
        due("fault at the end", p.fault(), 20);
        due("the tape is empty then, too", p.count(6), 0);
        bytes(p, " ".repeat(400).chars().toArray());
        due("a tape of blanks", p.play(), -6);
        due("fault at 400", p.fault(), 400);
        due("nothing behind blanks", p.play(), -6);
        due("fault at its end again", p.fault(), 0);
        due("a fault", play(p, "beat 0 0 off;slip"), -6);
        due("the one before stays", p.count(1), 2);
        due("its places", p.of(0, 0, 0), 1);
        due("its laws", p.show(0), 1);
        due("another", play(p, "beat 0 0 at 2,2 deep 2"), 1);
        due("its clauses", p.count(1), 1);
        due("the old laws are gone", p.show(0), 0);
        due("off where it was at", play(p, "beat 0 0 off"), 1);
        due("it is off", p.of(0, 0, 0), 0);
        due("many laws", play(p, "beat 0 0 at 2,2 deep 2;slip 0" + ";slip 100".repeat(22)), 24);
        due("the last tells", p.show(0), 1);
        due("fewer laws", play(p, "beat 0 0 at 2,2 deep 2;slip 0"), 2);
        due("none of the others tells", p.show(0), 0);
    }

    private static void fault() {
        says("`int fault()`: FAULT of the latest play(): its place; NONE without.");
        ClothPlay p = new ClothPlay();
        due("ahead of any", p.fault(), NONE);
        play(p, "  bar");
        due("its place", p.fault(), 2);
        p.feed(0, 0, 0, 0, 0);
        due("it stays", p.fault(), 2);
        play(p, "bars");
        due("without", p.fault(), NONE);
        p.play();
        due("at the end of nothing", p.fault(), 0);
    }

    private static void shadow() {
        says("`int shadow(int figure, int beat, int row)`: A row of CELLS 0 .. 15 of the SHADOW of a FIGURE on a BEAT,"
            + " of all SHADOWS then (figure NONE), as bits. 0 too, if it is off, or there is none such.");
        ClothPlay p = standing(at(0, 0, 1), at(31, 15, 8));
        due("row 0", p.shadow(0, 0, 0), 0xff);
        due("row 7", p.shadow(0, 0, 7), 0xff);
        due("row 8", p.shadow(0, 0, 8), 0);
        due("row 15", p.shadow(1, 0, 15), 1 << 31);
        due("all, row 0", p.shadow(NONE, 0, 0), 0xff);
        due("all, row 15", p.shadow(NONE, 0, 15), 1 << 31);
        p.on(1, 0, 4, 0, 4);
        due("all together", p.shadow(NONE, 0, 0), 0x3ff);
        for (int row : new int[] {-1, 16, LOW, HIGH}) {
            due("row " + row, p.shadow(0, 0, row), 0);
            due("all, row " + row, p.shadow(NONE, 0, row), 0);
        }
        for (int beat : NO_BEATS) {
            due("beat " + beat, p.shadow(0, beat, 0), 0);
            due("all, beat " + beat, p.shadow(NONE, beat, 0), 0);
        }
        for (int none : NO_FIGURES) {
            if (none != NONE) {
                due("figure " + none, p.shadow(none, 0, 0), 0);
            }
        }
        due("off", p.shadow(0, 1, 0), 0);
        due("all off", p.shadow(NONE, 1, 0), 0);
        p.off(0, 0);
        due("one is off", p.shadow(NONE, 0, 0), 0x300);
    }

    private static void seen() {
        says("`int seen(int figure, int beat, int what)`: CELLS of the SHADOW of a FIGURE on a BEAT (what 0),"
            + " HIDDEN of these (1), BLUR (2). NONE (off, too).");
        ClothPlay p = standing(at(0, 0, 4), at(0, 0, 4));
        int[] first = {4, 0, 100};
        int[] second = {4, 4, 100};
        for (int what = 0; what < 3; what++) {
            due("first, " + what, p.seen(0, 0, what), first[what]);
            due("second, " + what, p.seen(1, 0, what), second[what]);
            due("off, " + what, p.seen(0, 1, what), NONE);
            for (int none : NO_FIGURES) {
                due("figure " + none, p.seen(none, 0, what), NONE);
            }
            for (int beat : NO_BEATS) {
                due("beat " + beat, p.seen(0, beat, what), NONE);
            }
        }
        for (int what : new int[] {-1, 3, LOW, HIGH}) {
            due("what " + what, p.seen(0, 0, what), NONE);
        }
        p.on(0, 0, 31, 15, 1);
        due("on, but no cell", p.seen(0, 0, 0), 0);
        due("nor one hidden", p.seen(0, 0, 1), 0);
    }

    private static void common() {
        says("`int common(int one, int other, int beat)`: How many CELLS two SHADOWS have in common on a BEAT."
            + " NONE (one is off, too).");
        ClothPlay p = standing(at(0, 0, 4), at(1, 1, 8));
        due("one cell", p.common(0, 1, 0), 1);
        due("turned", p.common(1, 0, 0), 1);
        due("with itself", p.common(0, 0, 0), 4);
        p.on(1, 0, 2, 2, 8);
        due("none in common", p.common(0, 1, 0), 0);
        p.off(1, 0);
        due("one is off", p.common(0, 1, 0), NONE);
        due("the first is off", p.common(1, 0, 0), NONE);
        due("both are off", p.common(0, 1, 1), NONE);
        for (int none : NO_FIGURES) {
            due("other " + none, p.common(0, none, 0), NONE);
            due("one " + none, p.common(none, 0, 0), NONE);
        }
        for (int beat : NO_BEATS) {
            due("beat " + beat, p.common(0, 0, beat), NONE);
        }
    }

    private static void holds() {
        says("`int holds(int helper, int beat, int figures)`: Whether a HELPER 0 .. 2 (1, 0), or the HOOKS (helper 3)"
            + " can hold some FIGURES (bits) on a BEAT, HELPERS not asked. NONE (FIGURES that are off, too).");
        ClothPlay p = standing(at(0, 0, 1), at(0, 0, 1));
        p.figure(1);
        p.terms(2, 0);
        for (int helper = 0; helper < 3; helper++) {
            due("helper " + helper, p.holds(helper, 0, 3), 1);
            due("none of them, " + helper, p.holds(helper, 0, 0), 1);
            due("nobody on, " + helper, p.holds(helper, 11, 0), 1);
        }
        due("no hooks", p.holds(3, 0, 1), 0);
        due("no hooks, none of them", p.holds(3, 0, 0), 1);
        p.terms(4, 1);
        due("a hook", p.holds(3, 0, 1), 1);
        due("one hook", p.holds(3, 0, 3), 0);
        for (int helper : new int[] {-1, 4, LOW, HIGH}) {
            due("helper " + helper, p.holds(helper, 0, 1), NONE);
            due("helper " + helper + ", none of them", p.holds(helper, 0, 0), NONE);
        }
        for (int figures : new int[] {4, 5, 8, 63, 64, 65, 1 << 31, -1, LOW + 1, HIGH}) {
            due("figures " + figures, p.holds(0, 0, figures), NONE);
            due("hooks, figures " + figures, p.holds(3, 0, figures), NONE);
        }
        due("off", p.holds(0, 1, 1), NONE);
        for (int beat : NO_BEATS) {
            due("beat " + beat, p.holds(0, beat, 0), NONE);
        }
    }

    private static void holdings() {
        says("`int holdings(int beat)`: How many HOLDINGS a BEAT has. NONE.");
        ClothPlay p = new ClothPlay();
        due("no figures", p.holdings(0), 1);
        due("no figures, last beat", p.holdings(11), 1);
        for (int beat : NO_BEATS) {
            due("beat " + beat, p.holdings(beat), NONE);
        }
        p = with(1, 1, 1, 1, 1, 1);
        for (int f = 0; f < 6; f++) {
            p.on(f, 11, 0, 0, 1);
        }
        due("two each", p.holdings(11), 90);
        p.terms(3, 1);
        due("three at most each", p.holdings(11), 90 + 6 * 60 + 3 * 20);
        p.on(0, 10, 0, 0, 1);
        p.terms(4, 6);
        due("one of them may hang", p.holdings(11), 510 + 243 - 3 * (5 * 2 + 1));
        p.terms(2, 0);
        due("it alone", p.holdings(11), 0);
        for (int f = 0; f < 6; f++) {
            p.on(f, 0, 0, 0, 1);
        }
        due("all on the hooks", p.holdings(0), 1);
        p.terms(2, 3);
        due("the most there can be", p.holdings(0), 4096 - 3 * (15 * 9 + 6 * 3 + 1));
    }

    private static void least() {
        says("`int least(int what)`: LEAST: how much is PASSED (what 0), how many PERFORMANCES there are with so little"
            + " (1; 1,000,000,000 at most). NONE (there is none: for 0; 0 for 1).");
        ClothPlay p = new ClothPlay();
        due("nobody, passed", p.least(0), 0);
        due("nobody, ways", p.least(1), 1);
        for (int what : new int[] {-1, 2, LOW, HIGH}) {
            due("what " + what, p.least(what), NONE);
        }
        p = with(1, 1, 1, 1, 1, 1);
        p.terms(2, 0);
        p.on(0, 0, 0, 0, 1);
        due("there is none", p.least(0), NONE);
        due("no ways", p.least(1), 0);
        for (int what : new int[] {-1, 2, LOW, HIGH}) {
            due("none, what " + what, p.least(what), NONE);
        }
        many();
    }

    /** On BEATS apart the ways multiply: 9 for two FIGURES, 3 for one, 510 for six with TEETH. */
    private static void many() {
        ClothPlay p = with(1, 1, 1, 1, 1, 1);
        p.terms(3, 1);
        for (int beat = 0; beat < 6; beat += 2) {
            for (int f = 0; f < 6; f++) {
                p.on(f, beat, 0, 0, 1);
            }
        }
        due("510 three times", p.least(1), 510 * 510 * 510);
        p.on(0, 5, 0, 0, 1);
        due("one stays where it is", p.least(1), 510 * 510 * 510);
        p.off(0, 5);
        p.on(0, 6, 0, 0, 1);
        due("apart: 3 times as many", p.least(1), 3 * 510 * 510 * 510);
        p.on(0, 8, 0, 0, 1);
        due("9 times as many would be too many", p.least(1), 1000000000);
        // Where passing costs nothing, each BEAT's HOLDINGS are free of the others'.
        p = with(1, 1, 1);
        p.terms(2, 2);
        play(p, "beat 0 to 11 0 at 0,0 deep 1;beat 0 to 11 1 at 0,0 deep 1;beat 0 to 4 2 at 31,0 deep 1;pass 0;"
            + "bars if figure=2 and beat>3 and helper=0");
        due("as many as the holdings tell", p.least(1), productOfHoldings(p));
        p.terms(2, 3);
        due("no more than", p.least(1), productOfHoldings(p));
        due("it is the most", p.least(1), 1000000000);
        p = with(1, 1, 1, 1, 1, 1);
        p.terms(3, 1);
        p.terms(4, 6);
        for (int f = 0; f < 6; f++) {
            p.on(f, 0, 0, 0, 1);
            p.on(f, 1, 0, 0, 1);
        }
        due("six, any of four holders, staying", p.least(1), 4096 - 3 * (15 * 9 + 6 * 3 + 1));
        p = with(1, 1, 1, 1, 1, 1);
        p.terms(3, 1);
        p.terms(4, 6);
        String all = "pass 0";
        for (int f = 0; f < 6; f++) {
            all += ";beat 0 to 1 " + f + " at 0,0 deep 1";
        }
        play(p, all);
        due("six, any of four holders, passed for nothing", p.least(1), 3634 * 3634);
        play(p, all + ";pass 1;bars if beat=1 and helper<3");
        due("six that end on the hooks, passed", p.least(0), 0);
        due("six that end on the hooks, ways", p.least(1), 1);
        play(p, all + ";pass 1;bars if beat=1 and helper<3;bars if beat=0 and helper=3");
        due("six that come to the hooks, passed", p.least(0), 6);
        due("six that come to the hooks, ways", p.least(1), 510);
    }

    private static int productOfHoldings(ClothPlay p) {
        long all = 1;
        for (int beat = 0; beat < 12; beat++) {
            all = Math.min(1000000000L, all * p.holdings(beat));
        }
        return (int) all;
    }

    private static void holder() {
        says("`int holder(int figure, int beat)`: Who holds a FIGURE on a BEAT in the FIRST (3 the HOOKS). NONE (off, too).");
        ClothPlay p = standing(at(0, 0, 1), at(31, 0, 1));
        due("the first", p.holder(0, 0), 0);
        due("the second", p.holder(1, 0), 1);
        p.terms(4, 1);
        p.terms(2, 1);
        due("the hooks", p.holder(1, 0), 3);
        due("off", p.holder(0, 1), NONE);
        for (int none : NO_FIGURES) {
            due("figure " + none, p.holder(none, 0), NONE);
        }
        for (int beat : NO_BEATS) {
            due("beat " + beat, p.holder(0, beat), NONE);
        }
        p.terms(4, 0);
        due("no performance", p.holder(0, 0), NONE);
        p.terms(2, 3);
        p.on(0, 11, 0, 0, 1);
        due("beat 11", p.holder(0, 11), 0);
        p.on(1, 0, 1, 0, 1);
        p.terms(2, 1);
        due("one helper for both: the first", p.holder(0, 0), 0);
        due("one helper for both: the second, no longer another's", p.holder(1, 0), 0);
        p = with(1, 1, 1, 1, 1, 1);
        p.terms(4, 6);
        String all = "bars if helper<3";
        for (int f = 0; f < 6; f++) {
            all += ";beat 0 to 1 " + f + " at 0,0 deep 1";
        }
        play(p, all);
        for (int f = 0; f < 6; f++) {
            due("all on the hooks, " + f, p.holder(f, 1), 3);
        }
        play(p, "bars if helper<3 and beat>9;beat 9 to 11 5 at 0,0 deep 1");
        due("came new, so a helper", p.holder(5, 9), 0);
        due("the last figure stays on the hooks", p.holder(5, 10), 3);
        due("on the last beat, too", p.holder(5, 11), 3);
    }

    private static void passed() {
        says("`int passed(int figure)`: How often a FIGURE is PASSED in the FIRST (to others, whatever it costs). NONE.");
        ClothPlay p = with(1, 1);
        play(p, "beat 0 to 11 0 at 0,0 deep 1;bars if not helper=beat-beat/3*3;pass 0");
        due("on every beat", p.passed(0), 11);
        due("never on", p.passed(1), 0);
        due("it costs nothing", p.least(0), 0);
        play(p, "beat 0 to 11 0 at 0,0 deep 1;bars if not helper=beat-beat/3*3;pass 9");
        due("whatever it costs", p.passed(0), 11);
        play(p, "beat 0 to 11 0 at 0,0 deep 1");
        due("never", p.passed(0), 0);
        for (int none : NO_FIGURES) {
            due("figure " + none, p.passed(none), NONE);
        }
        p.terms(2, 0);
        due("no performance", p.passed(0), NONE);
        due("no performance, never on", p.passed(1), NONE);
    }

    private static void fewest() {
        says("`int fewest()`: FEWEST HELPERS; NONE: not with 3 either.");
        ClothPlay p = with(2, 2, 2, 2);
        due("nobody on", p.fewest(), 0);
        for (int f = 0; f < 3; f++) {
            p.on(f, 0, 0, 0, 1);
            due("with " + (f + 1), p.fewest(), f + 1);
        }
        p.on(3, 0, 0, 0, 1);
        due("not with 3", p.fewest(), NONE);
        p.terms(4, 1);
        due("with 3 and a hook", p.fewest(), 3);
        p.terms(4, 4);
        due("hooks alone", p.fewest(), 0);
    }

    private static void barred() {
        says("`int barred(int what)`: BARRED: the BEAT (what 0), its CORE, as bits (1). NONE (there is none, too).");
        ClothPlay p = with(1, 1, 1, 1, 1, 1);
        due("none, beat", p.barred(0), NONE);
        due("none, core", p.barred(1), NONE);
        p.terms(2, 0);
        p.on(5, 11, 0, 0, 1);
        due("the last beat", p.barred(0), 11);
        due("the last figure", p.barred(1), 32);
        p.on(0, 0, 0, 0, 1);
        due("the first beat", p.barred(0), 0);
        due("the first figure", p.barred(1), 1);
        for (int what : new int[] {-1, 2, LOW, HIGH}) {
            due("what " + what, p.barred(what), NONE);
        }
        p.terms(2, 1);
        due("none again", p.barred(0), NONE);
        due("no core again", p.barred(1), NONE);
        p.terms(2, 3);
        for (int barred = 0; barred < 3; barred++) {
            play(p, "beat 4 0 at 0,0 deep 1;beat 4 1 at 0,0 deep 1;beat 4 2 at 0,0 deep 1;bars if figure=" + barred);
            due("one of three, " + barred, p.barred(1), 1 << barred);
        }
    }

    private static void made() {
        says("`int made(int cast, int what)`: MADE by a CAST (bits of FIGURES that are there): in how many ways"
            + " (what 0; 1,000,000,000 at most), with how many FIGURES at the fewest (1; NONE without)."
            + " NONE (more than 64 CELLS, too). An empty told SHEET: one way, 0 FIGURES.");
        ClothPlay p = new ClothPlay();
        due("an empty sheet, no cast", p.made(0, 0), 1);
        due("no figures needed", p.made(0, 1), 0);
        due("not there", p.made(1, 0), NONE);
        p = with(1, 1);
        p.terms(0, 2);
        due("an empty sheet", p.made(3, 0), 1);
        due("its fewest", p.made(3, 1), 0);
        told(p, 3);
        due("no outlines", p.made(3, 0), 0);
        due("without", p.made(3, 1), NONE);
        outline(p, 0, 1);
        outline(p, 1, 1);
        due("two ways", p.made(3, 0), 2);
        due("two figures", p.made(3, 1), 2);
        due("one can't", p.made(1, 0), 0);
        due("one can't, fewest", p.made(1, 1), NONE);
        outline(p, 1, 3);
        due("one is fewer", p.made(3, 1), 1);
        for (int cast : new int[] {-1, 4, 7, 64, 1 << 31, LOW + 1, HIGH}) {
            due("cast " + cast, p.made(cast, 0), NONE);
            due("cast " + cast + ", fewest", p.made(cast, 1), NONE);
        }
        for (int what : new int[] {-1, 2, LOW, HIGH}) {
            due("what " + what, p.made(3, what), NONE);
        }
        told(p, -1, -1);
        due("64 cells", p.made(3, 0), 0);
        told(p, -1, -1, 0, 0, 0, 0, 0, 0, 0, 0, 0, 0, 0, 0, 0, 1);
        due("65 cells", p.made(3, 0), NONE);
        due("65 cells, fewest", p.made(3, 1), NONE);
        due("65 cells, no cast", p.made(0, 0), NONE);
        told(p, 0);
        due("empty again", p.made(3, 0), 1);
        p = with(1, 1, 1, 1, 1, 1);
        due("all six", p.made(63, 0), 1);
        due("a seventh", p.made(64, 0), NONE);
        askedAnew();
    }

    /** What changes between two askings of the same CAST counts. */
    private static void askedAnew() {
        ClothPlay p = standing(at(0, 0, 8));
        told(p, 3, 3);
        due("by the lamp at 8", p.made(1, 0), 1);
        p.terms(0, 32);
        due("by the lamp at 32", p.made(1, 0), 0);
        p.terms(0, 8);
        p.image(0);
        due("by the lamp at 8 again", p.made(1, 1), 1);
        p.copy(1);
        due("copied: empty", p.made(1, 0), 1);
        due("nobody needed", p.made(1, 1), 0);
        p.back(0);
        due("back", p.made(1, 1), 1);
        outline(p, 0, 3);
        due("another outline", p.made(1, 0), 0);
        p.back(0);
        due("back to the outline", p.made(1, 0), 1);
        told(p, 5);
        due("another sheet", p.made(1, 0), 0);
    }

    private static void who() {
        says("`int who(int cast, int figure, int what)`: By the first way with the fewest (FIGURES as bits, the lowest number;"
            + " then as a row of DEEP, X, Y by FIGURES, lower ones ahead): whether a FIGURE is in it (what 0: 1, 0), X (1),"
            + " Y (2), DEEP (3).");
        ClothPlay p = with(1, 1, 1, 1);
        p.terms(0, 2);
        for (int f = 0; f < 3; f++) {
            outline(p, f, 1);
        }
        outline(p, 3, 1, 1);
        told(p, 0, 0, 4, 4);
        tells(p, 15, 3, 1, 2, 2, 2);
        tells(p, 15, 0, 0, NONE, NONE, NONE);
        // Two of three: 3 is the lowest number, though 5 and 6 would do too.
        tells(p, 7, 0, 1, 2, 2, 2);
        tells(p, 7, 1, 1, 2, 3, 2);
        tells(p, 7, 2, 0, NONE, NONE, NONE);
        tells(p, 6, 1, 1, 2, 2, 2);
        told(p, 0b10010);
        tells(p, 3, 0, 1, 1, 0, 2);
        tells(p, 3, 1, 1, 4, 0, 2);
        // A cell of one CELL is at DEEP 2, of four at DEEP 1: the less deep first, wherever it is.
        told(p, 0b1101, 0b1100);
        tells(p, 3, 0, 1, 1, 0, 1);
        tells(p, 3, 1, 1, 0, 0, 2);

        says("NONE (not in it, but for 0; no way, too; FIGURES that are not of the CAST: not in it).");
        tells(p, 3, 2, 0, NONE, NONE, NONE);
        tells(p, 1, 0, NONE, NONE, NONE, NONE);
        tells(p, 0, 0, NONE, NONE, NONE, NONE);
        for (int figure : new int[] {-1, 4, 5, 6, 32, LOW, HIGH}) {
            tells(p, 3, figure, NONE, NONE, NONE, NONE);
        }
        for (int what : new int[] {-1, 4, LOW, HIGH}) {
            due("what " + what, p.who(3, 0, what), NONE);
        }
        for (int cast : new int[] {-1, 16, 64, LOW + 1, HIGH}) {
            tells(p, cast, 0, NONE, NONE, NONE, NONE);
        }
        told(p, 0);
        tells(p, 15, 0, 0, NONE, NONE, NONE);
        tells(p, 0, 3, 0, NONE, NONE, NONE);
        told(p, -1, -1, 1);
        tells(p, 15, 0, NONE, NONE, NONE, NONE);
    }

    private static void tells(ClothPlay p, int cast, int figure, int in, int x, int y, int deep) {
        due("cast " + cast + ", figure " + figure, p.who(cast, figure, 0), in);
        due("x of " + figure, p.who(cast, figure, 1), x);
        due("y of " + figure, p.who(cast, figure, 2), y);
        due("deep of " + figure, p.who(cast, figure, 3), deep);
    }

    private static void sheet() {
        says("`int sheet(int row)`: A row 0 .. 15 of the told SHEET, as bits; 0 beyond.");
        ClothPlay p = new ClothPlay();
        told(p, -1, 1, 2, 3, 4, 5, 6, 7, 8, 9, 10, 11, 12, 13, 14, LOW);
        due("row 0", p.sheet(0), -1);
        for (int r = 1; r < 15; r++) {
            due("row " + r, p.sheet(r), r);
        }
        due("row 15", p.sheet(15), LOW);
        for (int r : new int[] {-1, 16, LOW, HIGH}) {
            due("row " + r, p.sheet(r), 0);
        }
    }

    private static void copy() {
        says("`int copy(int beat)`: The told SHEET becomes all SHADOWS of a BEAT: how many CELLS. -1.");
        ClothPlay p = standing(at(0, 0, 4), at(1, 1, 8));
        p.on(1, 11, 31, 15, 8);
        due("two that overlap", p.copy(0), 4);
        due("row 1", p.sheet(1), 3);
        due("the last beat", p.copy(11), 1);
        due("its cell", p.sheet(15), 1 << 31);
        due("the old ones are gone", p.sheet(1), 0);
        for (int beat : NO_BEATS) {
            due("beat " + beat, p.copy(beat), -1);
        }
        due("as it was", p.count(5), 1);
        due("nobody on", p.copy(5), 0);
        due("empty", p.count(5), 0);
    }

    private static void show() {
        says("`int show(int seed)`: A SHOW, kept as the latest: how many SLIPS. -1; -3 there is no PERFORMANCE.");
        ClothPlay p = with(1);
        due("nobody on", p.show(0), 0);
        play(p, "beat 0 to 11 0 at 0,0 deep 1;slip 100");
        due("always", p.show(1000000), 12);
        for (int seed : new int[] {-1, 1000001, LOW, HIGH}) {
            due("seed " + seed, p.show(seed), -1);
        }
        due("the latest stays", p.slipped(11), 1);
        p.terms(2, 0);
        due("no performance", p.show(0), -3);
        due("no performance, wrong seed", p.show(-1), -1);
        due("the latest stays still", p.slipped(11), 1);
        p.off(0, 11);
        due("no performance yet", p.show(0), -3);
        p.terms(2, 1);
        due("one is off", p.show(0), 11);
        due("another show", p.slipped(11), 0);
    }

    private static void slipped() {
        says("`int slipped(int beat)`: FIGURES that SLIPPED on a BEAT of the latest SHOW, as bits. NONE.");
        ClothPlay p = with(1, 1, 1, 1, 1, 1);
        due("ahead of any", p.slipped(0), NONE);
        p.show(-1);
        due("ahead of any that was not refused", p.slipped(0), NONE);
        play(p, "beat 0 0 at 0,0 deep 1;beat 11 0 at 0,0 deep 1;beat 11 5 at 0,0 deep 1;slip 100;slip 0 if figure=0 and beat=11");
        p.show(0);
        due("beat 0", p.slipped(0), 1);
        due("beat 11", p.slipped(11), 32);
        due("nobody on", p.slipped(5), 0);
        for (int beat : NO_BEATS) {
            due("beat " + beat, p.slipped(beat), NONE);
        }
        p.off(5, 11);
        due("as it was shown", p.slipped(11), 32);
        p.show(0);
        due("shown anew", p.slipped(11), 0);
    }

    private static void image() {
        says("`int image(int k)`: IMAGE k is kept: 0; -1.");
        ClothPlay p = with(1);
        due("0", p.image(0), 0);
        p.figure(1);
        due("1", p.image(1), 0);
        for (int k : new int[] {-1, 2, LOW, HIGH}) {
            due("image " + k, p.image(k), -1);
        }
        p.figure(1);
        p.back(0);
        due("one figure", p.count(0), 1);
        p.back(1);
        due("two figures", p.count(0), 2);
        p.figure(1);
        due("0 anew", p.image(0), 0);
        p.back(1);
        p.back(0);
        due("three figures", p.count(0), 3);
    }

    private static void back() {
        says("`int back(int k)`: BACK to IMAGE k: 0. -1; -2 it was not kept.");
        ClothPlay p = with(1);
        due("0 was not kept", p.back(0), -2);
        due("1 was not kept", p.back(1), -2);
        for (int k : new int[] {-1, 2, LOW, HIGH}) {
            due("image " + k, p.back(k), -1);
        }
        due("nothing changed", p.count(0), 1);
        p.image(1);
        p.figure(1);
        due("0 still not", p.back(0), -2);
        due("1", p.back(1), 0);
        due("again", p.back(1), 0);
        due("one figure", p.count(0), 1);
        p.on(0, 0, 0, 0, 1);
        due("three may hold it", p.least(1), 3);
        due("on one beat", p.holdings(0), 3);
        p.back(1);
        due("nobody need", p.least(1), 1);
        due("nor on that beat", p.holdings(0), 1);
    }

    private static void count() {
        says("`int count(int what)`: 0 FIGURES, 1 CLAUSES, 2 FIGURES on on all BEATS together, 3 BEATS with any,"
            + " 4 the most that are on at once, 5 CELLS of the told SHEET, 6 bytes of the TAPE,"
            + " 7 .. 11 how many calls were REFUSED by -1, -2, -3, -5, -6 (IMAGES do not keep that). NONE for others.");
        ClothPlay p = with(1, 1, 1, 1, 1, 1);
        play(p, "bars if x<0" + ";beat 0 to 11 5 at 0,0 deep 1;beat 11 0 at 0,0 deep 1;beat 11 3 at 0,0 deep 1"
            + ";beat 0 5 off");
        told(p, -1, -1, -1, -1, -1, -1, -1, -1, -1, -1, -1, -1, -1, -1, -1, -1);
        p.feed(0, 0, 0, 0, 0);
        p.end(3);
        int[] all = {6, 5, 13, 11, 3, 512, 3};
        for (int what = 0; what < all.length; what++) {
            due("count " + what, p.count(what), all[what]);
        }
        for (int what : new int[] {-1, 12, LOW, HIGH}) {
            due("count " + what, p.count(what), NONE);
        }
        p.image(0);
        refuse(p);
        due("the first went", p.back(0), 0);
        counts(p, 5, 4, 1, 1, 2);
        p.back(0);
        refuse(p);
        counts(p, 10, 8, 2, 2, 4);
        p.of(9, 9, 9);
        p.feed(0, 0, 0, 0, 0);
        p.end(-1);
        p.holds(9, 9, 9);
        p.least(9);
        p.made(-1, 0);
        p.who(-1, 0, 0);
        p.slipped(99);
        p.count(99);
        counts(p, 10, 8, 2, 2, 4);
    }

    /** Five calls refused by -1, four by -2, one by -3 and -5 each, two by -6. */
    private static void refuse(ClothPlay p) {
        p.figure(3);
        p.terms(0, 1);
        p.on(0, 12, 0, 0, 1);
        p.copy(12);
        p.image(2);
        p.sticks(6, 1);
        p.off(6, 0);
        p.row(6);
        p.back(1);
        p.terms(2, 0);
        p.show(0);
        p.figure(1);
        p.end(0);
        p.row(0);
        p.play();
    }

    private static void counts(ClothPlay p, int... want) {
        for (int k = 0; k < want.length; k++) {
            due("count " + (7 + k), p.count(7 + k), want[k]);
        }
    }

    private static void status() {
        says("`int status()`: What the latest call of figure, sticks, terms, on, off, row, play, copy, show, image, back was"
            + " REFUSED by; 0 if it was not, or ahead of any.");
        ClothPlay p = new ClothPlay();
        due("ahead of any", p.status(), 0);
        for (int call = 0; call < 11; call++) {
            p = standing(at(0, 0, 1));
            p.image(0);
            int by = refusedCall(p, call);
            due("call " + call + " refused", p.status(), by);
            p.status();
            p.of(0, 0, 0);
            p.feed(0x62617273, 0x20202020, 0x20202020, 0x20202020, 0x20202020);
            p.end(99);
            p.least(0);
            p.count(7);
            due("others leave it", p.status(), by);
            goodCall(p, call);
            due("call " + call + " not refused", p.status(), 0);
        }
    }

    private static int refusedCall(ClothPlay p, int call) {
        switch (call) {
            case 0:
                return p.figure(0);
            case 1:
                return p.sticks(1, 1);
            case 2:
                return p.terms(7, 1);
            case 3:
                return p.on(1, 0, 0, 0, 1);
            case 4:
                return p.off(0, 12);
            case 5:
                return p.row(1);
            case 6:
                return p.play();
            case 7:
                return p.copy(12);
            case 8:
                return p.show(-1);
            case 9:
                return p.image(2);
            default:
                return p.back(1);
        }
    }

    /** Sticks, off and the like answer more than 0 here, which is no refusal either. */
    private static void goodCall(ClothPlay p, int call) {
        switch (call) {
            case 0:
                due("figure", p.figure(1), 1);
                break;
            case 1:
                due("sticks", p.sticks(0, 1), 1);
                break;
            case 2:
                due("terms", p.terms(0, 9), 8);
                break;
            case 3:
                due("on", p.on(0, 0, 0, 0, 1), 0);
                break;
            case 4:
                due("off", p.off(0, 0), 1);
                break;
            case 5:
                due("row", p.row(0), 19);
                break;
            case 6:
                due("play", p.play(), 1);
                break;
            case 7:
                due("copy", p.copy(0), 64);
                break;
            case 8:
                due("show", p.show(0), 0);
                break;
            case 9:
                due("image", p.image(1), 0);
                break;
            default:
                due("back", p.back(0), 0);
        }
    }
}
