import java.util.Random;

/** Terms III and IV of the document, sentence by sentence: shadows, holders, performances; sheets, shows, rows, images. */
public final class StageTermsTest extends Bench {
    public static void main(String[] args) {
        sheetEdges();
        shadows();
        blurAndHidden();
        holdings();
        helperHolds();
        hooksHold();
        passing();
        firstOfLeast();
        fewestAndBarred();
        madeBy();
        madeOwnCells();
        madeCounted();
        draws();
        slipping();
        rows();
        images();
        allSaid("III. The SHEET", "The constants:");
        finish();
    }

    // ---- III: the SHEET

    private static void sheetEdges() {
        says("III. The SHEET has 32 columns and 16 rows of CELLS.");
        ClothPlay p = standing(at(31, 15, 8));
        outline(p, 0, 255, 255, 255, 255, 255, 255, 255, 255);
        due("the last cell alone", p.seen(0, 0, 0), 1);
        due("its row", p.shadow(0, 0, 15), 1 << 31);
        due("no row behind it", p.shadow(0, 0, 16), 0);
        due("none ahead", p.shadow(0, 0, -1), 0);
        p.on(0, 0, 0, 0, 1);
        due("all cells", p.seen(0, 0, 0), 512);
        due("a whole row", p.shadow(0, 0, 15), -1);
        due("all of them copied", p.copy(0), 512);
    }

    private static void shadows() {
        says("The SHADOW of a FIGURE at X, Y, DEEP d has the CELL c, r, if with a = ((2 c and 1) times d / (2 LAMP)) less X"
            + " and b = ((2 r and 1) times d / (2 LAMP)) less Y (/ cut) both are 0 .. 7 and its OUTLINE has the cell a"
            + " of row b.");
        int[] cells = {0x81, 0x42, 0x3c, 0xff, 0x01, 0x80, 0x55, 0xd1};
        for (int lamp : new int[] {2, 3, 8, 31, 32}) {
            for (int deep : new int[] {1, 2, lamp / 2, lamp - 1, lamp}) {
                for (int x : new int[] {0, 1, 3, 24, 25, 31}) {
                    for (int y : new int[] {0, 2, 8, 9, 15}) {
                        ClothPlay p = with(1);
                        p.terms(0, lamp);
                        outline(p, 0, cells);
                        p.on(0, 11, x, y, deep);
                        for (int r = 0; r < 16; r++) {
                            due("row " + r + " of " + x + "," + y + "," + deep + " by " + lamp, p.shadow(0, 11, r),
                                lit(cells, x, y, deep, lamp, r));
                        }
                    }
                }
            }
        }
    }

    private static int lit(int[] cells, int x, int y, int deep, int lamp, int r) {
        int bits = 0;
        for (int c = 0; c < 32; c++) {
            int a = (2 * c + 1) * deep / (2 * lamp) - x;
            int b = (2 * r + 1) * deep / (2 * lamp) - y;
            if (a >= 0 && a <= 7 && b >= 0 && b <= 7 && (cells[b] >> a & 1) == 1) {
                bits |= 1 << c;
            }
        }
        return bits;
    }

    private static void blurAndHidden() {
        says("Its BLUR is WIDE times (LAMP less d) / d, in hundredths, cut.");
        int[][] blurs = {{1, 8, 3, 166}, {3, 8, 3, 500}, {0, 32, 1, 0}, {16, 32, 1, 49600}, {1, 8, 8, 0}, {16, 8, 9, 0},
            {1, 2, 1, 100}, {7, 32, 31, 22}, {1, 32, 31, 3}, {16, 2, 2, 0}};
        for (int[] b : blurs) {
            ClothPlay p = standing(at(31, 15, b[2]));
            p.terms(1, b[0]);
            p.terms(0, b[1]);
            due("blur by " + b[0] + ", " + b[1] + ", " + b[2], p.seen(0, 0, 2), b[3]);
        }

        says("HIDDEN of a SHADOW are CELLS that are also in the SHADOW of a FIGURE that is less DEEP"
            + " (of alike ones: of a lower one).");
        ClothPlay p = standing(at(0, 0, 8), at(0, 0, 8), at(0, 0, 8));
        due("the lowest of alike ones", p.seen(0, 0, 1), 0);
        due("the next", p.seen(1, 0, 1), 1);
        due("hidden twice is hidden", p.seen(2, 0, 1), 1);
        p.on(2, 0, 0, 0, 7);
        due("a less deep one hides a lower one", p.seen(0, 0, 1), 1);
        due("and is not hidden", p.seen(2, 0, 1), 0);
        p = standing(at(0, 0, 8), at(0, 0, 7));
        due("a deeper lower one hides nothing", p.seen(1, 0, 1), 0);
        p.off(1, 0);
        due("what is off hides nothing", p.seen(0, 0, 1), 0);
        p.on(1, 0, 5, 5, 7);
        due("nor what is elsewhere", p.seen(0, 0, 1), 0);
        p.on(1, 0, 0, 0, 4);
        outline(p, 0, 7, 7, 7);
        due("cells that are in both", p.seen(0, 0, 1), 4);
        due("of nine", p.seen(0, 0, 0), 9);
    }

    // ---- III: who holds

    private static void holdings() {
        says("HOLDING on a BEAT gives each FIGURE that is on to a HELPER (0 .. HELPERS less 1) or the HOOKS (3).");
        for (int helpers = 0; helpers <= 3; helpers++) {
            for (int hooks = 0; hooks <= 1; hooks++) {
                ClothPlay p = standing(at(0, 0, 1));
                p.terms(2, helpers);
                p.terms(4, hooks);
                due("one", p.holdings(0), helpers + hooks);
                due("nobody on", p.holdings(1), 1);
                p.figure(1);
                p.on(1, 0, 0, 0, 1);
                due("two", p.holdings(0), (helpers + hooks) * (helpers + hooks) - hooks);
            }
        }
        ClothPlay p = with(1);
        play(p, "beat 0 0 at 0,0 deep 1;bars if helper<2");
        due("the third helper", p.holdings(0), 1);
        p.terms(2, 2);
        due("there is no third helper", p.holdings(0), 0);
    }

    private static void helperHolds() {
        says("A HELPER can hold some: those with two STICKS take both hands, one alone; of those with one STICK two,"
            + " with TEETH one more (also beside one with two); any two of them are at most REACH apart in X, ARM in DEEP;"
            + " \"bars\" HOLDS for none of them.");
        ClothPlay p = with(1, 1, 1, 1, 2, 2);
        for (int f = 0; f < 6; f++) {
            p.on(f, 0, 0, 0, 1);
        }
        int[][] sets = {{0, 1, 1}, {1, 1, 1}, {3, 1, 1}, {7, 0, 1}, {15, 0, 0}, {16, 1, 1}, {48, 0, 0}, {17, 0, 1}, {19, 0, 0},
            {49, 0, 0}, {63, 0, 0}};
        for (int teeth = 0; teeth <= 1; teeth++) {
            p.terms(3, teeth);
            for (int[] set : sets) {
                due("figures " + set[0] + ", teeth " + teeth, p.holds(2, 0, set[0]), set[1 + teeth]);
            }
        }
        for (int both = 0; both < 6; both++) {
            for (int f = 0; f < 6; f++) {
                p.sticks(f, f == both ? 2 : 1);
            }
            int beside = 1 << (both + 1) % 6;
            p.terms(3, 0);
            due("two sticks alone, " + both, p.holds(0, 0, 1 << both), 1);
            due("two sticks and one, " + both, p.holds(0, 0, 1 << both | beside), 0);
            p.terms(3, 1);
            due("with teeth, " + both, p.holds(0, 0, 1 << both | beside), 1);
        }
        near(at(0, 0, 1), at(8, 0, 1), 5, 8);
        near(at(8, 0, 1), at(0, 0, 1), 5, 8);
        near(at(0, 0, 1), at(31, 0, 1), 5, 31);
        near(at(0, 0, 1), at(1, 0, 1), 5, 1);
        near(at(0, 0, 1), at(0, 0, 9), 6, 8);
        near(at(0, 0, 9), at(0, 0, 1), 6, 8);
        near(at(0, 0, 1), at(0, 0, 32), 6, 31);
        near(at(0, 0, 1), at(0, 0, 2), 6, 1);
        p = standing(at(5, 0, 5), at(5, 15, 5));
        p.terms(5, 0);
        p.terms(6, 0);
        due("no reach, no arm, y does not count", p.holds(0, 0, 3), 1);
        p = standing(at(0, 0, 1), at(8, 0, 1), at(16, 0, 1));
        p.terms(3, 1);
        p.terms(5, 15);
        due("two neighbours", p.holds(0, 0, 6), 1);
        due("any two: the ends are too far", p.holds(0, 0, 7), 0);
        p.terms(5, 16);
        due("the ends are near", p.holds(0, 0, 7), 1);
        p = with(1, 1);
        play(p, "beat 0 0 at 0,0 deep 1;beat 0 1 at 0,0 deep 1;bars if figure=1");
        int[] can = {1, 1, 0, 0};
        for (int set = 0; set < 4; set++) {
            due("bars, figures " + set, p.holds(0, 0, set), can[set]);
        }
    }

    private static void near(int[] one, int[] other, int what, int just) {
        ClothPlay p = standing(one, other);
        p.terms(0, 32);
        p.terms(5, 31);
        p.terms(6, 31);
        p.terms(what, just);
        due("just in reach", p.holds(0, 0, 3), 1);
        p.terms(what, just - 1);
        due("beyond reach", p.holds(0, 0, 3), 0);
        due("each alone", p.holds(0, 0, 1) + p.holds(0, 0, 2), 2);
    }

    private static void hooksHold() {
        says("The HOOKS can hold HOOKS at most, each where it was on the BEAT ahead too (X, Y, DEEP as told;"
            + " on BEAT 0: any), none for which \"bars\" HOLDS.");
        ClothPlay p = with(2, 2, 2, 2, 2, 2);
        for (int f = 0; f < 6; f++) {
            p.on(f, 0, 6 * f, 2 * f, 1 + f);
        }
        p.terms(5, 0);
        p.terms(6, 0);
        for (int hooks = 0; hooks <= 6; hooks++) {
            p.terms(4, hooks);
            for (int many = 0; many <= 6; many++) {
                due(many + " on " + hooks, p.holds(3, 0, (1 << many) - 1), many <= hooks ? 1 : 0);
            }
        }
        due("where it stayed", hung(at(5, 6, 7), at(5, 6, 7)), 1);
        due("another x", hung(at(5, 6, 7), at(6, 6, 7)), 0);
        due("another y", hung(at(5, 6, 7), at(5, 5, 7)), 0);
        due("another deep", hung(at(5, 6, 7), at(5, 6, 6)), 0);
        due("deep as told, alike beyond the lamp", hung(at(5, 6, 20), at(5, 6, 20)), 1);
        due("deep as told, not as it counts", hung(at(5, 6, 8), at(5, 6, 9)), 0);
        p = with(1);
        p.terms(4, 1);
        p.on(0, 0, 1, 1, 1);
        p.on(0, 2, 1, 1, 1);
        due("off on the beat ahead", p.holds(3, 2, 1), 0);
        due("beat 0", p.holds(3, 0, 1), 1);
        play(p, "beat 10 to 11 0 at 0,0 deep 1;beat 0 0 at 0,0 deep 1");
        due("beat 11", p.holds(3, 11, 1), 1);
        due("beat 10", p.holds(3, 10, 1), 0);
        play(p, "beat 0 to 1 0 at 0,0 deep 1;bars if helper=3 and beat=1");
        due("barred", p.holds(3, 1, 1), 0);
        due("not barred", p.holds(3, 0, 1), 1);
        due("none, barred or not", p.holds(3, 1, 0), 1);
        // Of two only one stayed: the hooks can't hold both.
        play(p, "beat 0 to 1 0 at 0,0 deep 1;beat 1 1 at 0,0 deep 1");
        p.figure(1);
        p.terms(4, 6);
        due("each of them", p.holds(3, 1, 3), 0);
    }

    private static int hung(int[] first, int[] then) {
        ClothPlay p = with(1);
        p.terms(4, 1);
        p.on(0, 4, first[0], first[1], first[2]);
        p.on(0, 5, then[0], then[1], then[2]);
        return p.holds(3, 5, 1);
    }

    // ---- III: performances

    /** One FIGURE that only the helper with the BEAT's number can hold, on three BEATS. */
    private static ClothPlay driven(String laws) {
        ClothPlay p = with(1);
        play(p, "beat 0 to 2 0 at 0,0 deep 1;bars if not helper=beat" + laws);
        due("no fault in '" + laws + "'", p.fault(), NONE);
        return p;
    }

    private static void passing() {
        says("A PERFORMANCE is a HOLDING for each BEAT.");
        ClothPlay p = new ClothPlay();
        p.terms(2, 0);
        due("nobody on", p.least(1), 1);
        p.figure(1);
        p.on(0, 11, 0, 0, 1);
        due("one beat without", p.least(1), 0);
        p.terms(2, 2);
        due("its holdings", p.least(1), 2);
        p.on(0, 0, 0, 0, 1);
        due("times the other's", p.least(1), 4);

        says("A FIGURE that is on on two BEATS one behind the other and held by another one then is PASSED:"
            + " what \"pass\" tells (beat: the second; helper: who had it), 0 .. 9 (else the nearest), 1 without.");
        String[] laws = {"", ";pass 0", ";pass 9", ";pass 10", ";pass 1000*1000*1000", ";pass 0-1", ";pass 0-1000*1000*1000",
            ";pass 1/0", ";pass 4 if 1=2", ";pass 1000*1000*1000+1", ";pass beat", ";pass helper", ";pass other"};
        int[] costs = {2, 0, 18, 18, 18, 0, 0, 2, 2, 2, 3, 1, 3};
        for (int k = 0; k < laws.length; k++) {
            due("least" + laws[k], driven(laws[k]).least(0), costs[k]);
        }
        p = driven("");
        p.off(0, 1);
        due("off between", p.least(0), 0);
        due("never passed", p.passed(0), 0);
        p = with(1, 1, 1, 1, 1, 1);
        p.terms(3, 1);
        String all = "";
        for (int f = 0; f < 6; f++) {
            all += "beat 0 to 11 " + f + " at 0,0 deep 1;";
        }
        play(p, all + "pass 9;bars if not helper=[figure+beat]-[figure+beat]/2*2");
        due("as much as there can be", p.least(0), 6 * 11 * 9);
        due("in one way", p.least(1), 1);
        due("each time", p.passed(5), 11);
        p = with(1);
        p.terms(2, 1);
        p.terms(4, 1);
        play(p, "beat 0 to 2 0 at 0,0 deep 1;bars if helper=0 and beat=0;bars if helper=3 and beat=1;pass 2;pass 5 if helper=0");
        due("from the hooks and on", p.least(0), 2);
        due("it is the hooks'", p.holder(0, 0), 3);
        p = with(1, 1);
        play(p, "beat 0 to 3 0 at 0,0 deep 1;beat 0 to 3 1 at 0,0 deep 1;bars if not helper=beat-beat/2*2;pass figure*3+beat");
        due("each by its own beat and figure", p.least(0), 1 + 2 + 3 + 4 + 5 + 6);
        play(p, "beat 0 to 2 0 at 0,0 deep 1;beat 1 to 3 1 at 0,0 deep 1;bars if not helper=beat-beat/2*2;pass figure*3+beat");
        due("not when it comes or goes", p.least(0), 1 + 2 + 5 + 6);
    }

    private static void firstOfLeast() {
        says("LEAST are the PERFORMANCES for which all that is PASSED is together the least; the FIRST of them:"
            + " BEAT by BEAT as a row of holders by FIGURES (those that are off left out), lower ones ahead.");
        ClothPlay p = with(1);
        play(p, "beat 0 to 2 0 at 0,0 deep 1;bars if helper=0 and beat=2");
        due("the least", p.least(0), 0);
        due("its ways", p.least(1), 2);
        holders(p, 0, 1, 1, 1);
        play(p, "beat 0 to 2 0 at 0,0 deep 1;bars if helper=0 and beat=2;pass 0");
        due("all ways", p.least(1), 3 * 3 * 2);
        holders(p, 0, 0, 0, 1);
        play(p, "beat 0 to 2 0 at 0,0 deep 1;bars if beat=2 and helper<2;bars if beat=0 and helper=2");
        due("passed once, from either, on either beat", p.least(1), 4);
        holders(p, 0, 0, 0, 2);
        play(p, "beat 0 to 3 0 at 0,0 deep 1;bars if (beat=0 or beat=2) and helper>0"
            + ";bars if (beat=1 or beat=3) and helper=0");
        due("passed three times", p.least(0), 3);
        due("to either of two, twice", p.least(1), 4);
        holders(p, 0, 0, 1, 0, 1);
        p = with(2, 2, 2);
        play(p, "beat 0 to 1 1 at 0,0 deep 1;beat 0 to 1 2 at 0,0 deep 1;beat 1 0 at 0,0 deep 1;pass 0");
        holders(p, 0, NONE, 0);
        holders(p, 1, 0, 1);
        holders(p, 2, 1, 2);
        play(p, "beat 0 to 1 1 at 0,0 deep 1;beat 0 to 1 2 at 0,0 deep 1;beat 1 0 at 0,0 deep 1");
        holders(p, 0, NONE, 2);
        holders(p, 1, 0, 0);
        holders(p, 2, 1, 1);
        comesAndGoes();
        p = with(1);
        p.terms(2, 1);
        p.terms(4, 1);
        p.on(0, 0, 0, 0, 1);
        due("helpers ahead of the hooks", p.holder(0, 0), 0);
    }

    /** One that comes or goes beside one whose holders are not alike. */
    private static void comesAndGoes() {
        for (int goer = 0; goer < 2; goer++) {
            int stays = 1 - goer;
            String both = "beat 0 to 1 " + stays + " at 0,0 deep 1;beat ";
            ClothPlay p = with(1, 1);
            play(p, both + "1 " + goer + " at 0,0 deep 1;bars if helper=0 and beat=1 and figure=" + stays);
            due(goer + " comes, passed", p.least(0), 0);
            due(goer + " comes, ways", p.least(1), 2 * 3);
            holders(p, stays, 1, 1);
            holders(p, goer, NONE, 0);
            play(p, both + "0 " + goer + " at 0,0 deep 1;bars if helper<2 and beat=0 and figure=" + stays);
            due(goer + " goes, passed", p.least(0), 0);
            due(goer + " goes, ways", p.least(1), 3);
            holders(p, stays, 2, 2);
            holders(p, goer, 0, NONE);
        }
    }

    private static void holders(ClothPlay p, int figure, int... want) {
        for (int beat = 0; beat < want.length; beat++) {
            due("holder of " + figure + " on " + beat, p.holder(figure, beat), want[beat]);
        }
    }

    private static void fewestAndBarred() {
        says("FEWEST HELPERS, 0 .. 3, with which there is a PERFORMANCE (HELPERS does not count).");
        for (int helpers = 0; helpers <= 3; helpers++) {
            ClothPlay p = with(2, 2, 2, 2);
            p.terms(2, helpers);
            for (int many = 0; many <= 4; many++) {
                due(many + " at once", p.fewest(), many > 3 ? NONE : many);
                if (many < 4) {
                    p.on(many, 11, 0, 0, 1);
                }
            }
            p.on(3, 10, 0, 0, 1);
            p.terms(4, 1);
            due("a hook for the one that stayed", p.fewest(), 3);
            p.terms(4, 6);
            due("more hooks help nothing: the others came new", p.fewest(), 3);
        }
        ClothPlay p = standing(at(0, 0, 1), at(0, 0, 1));
        p.terms(4, 2);
        due("the hooks alone", p.fewest(), 0);
        play(p, "beat 0 0 at 0,0 deep 1;bars if helper<2");
        p.terms(4, 0);
        due("the third alone", p.fewest(), 3);

        says("BARRED, with HELPERS as they are: the first BEAT without a HOLDING; its CORE: of the FIGURES that are on,"
            + " from the first on, each is left out, if there is none without it either.");
        p = standing(at(0, 0, 1), at(20, 0, 1), at(31, 0, 1));
        for (int f = 0; f < 3; f++) {
            p.on(f, 11, 0, 0, 1);
        }
        due("three helpers", p.barred(0), NONE);
        p.terms(2, 2);
        due("two helpers", p.barred(0), 0);
        due("all are needed", p.barred(1), 7);
        p.terms(2, 1);
        due("one helper", p.barred(0), 0);
        due("the first is left out", p.barred(1), 6);
        p.off(0, 0);
        p.off(1, 0);
        due("the last beat", p.barred(0), 11);
        due("all three", p.barred(1), 7);
        p.terms(2, 0);
        due("no helper: beat 0 again", p.barred(0), 0);
        due("the last one alone", p.barred(1), 4);
        p = standing(at(0, 0, 1));
        p.terms(2, 0);
        due("one on the first beat", p.barred(1), 1);
        p.terms(4, 1);
        due("not with a hook", p.barred(0), NONE);
        p = with(1, 1, 1, 1, 1, 1);
        for (int f = 0; f < 6; f++) {
            p.on(f, 11, 0, 0, 1);
        }
        p.terms(2, 2);
        due("five of six", p.barred(1), 62);
        // Any two of them are too far apart for the one helper: which two are left tells the order.
        p.terms(2, 1);
        p.terms(5, 0);
        for (int f = 0; f < 6; f++) {
            p.on(f, 11, f, 0, 1);
        }
        due("the last two of six", p.barred(1), 48);
        p.off(5, 11);
        due("the last two of five", p.barred(1), 24);
        p.on(3, 11, 4, 0, 1);
        due("the fifth is with the fourth", p.barred(1), 20);
    }

    // ---- IV: MADE

    private static void madeBy() {
        says("IV. MADE: a told SHEET (of 64 CELLS at most) by a CAST of FIGURES (bits): at most 3 of them,"
            + " each at X 0 .. 31, Y 0 .. 15, DEEP 1 .. 8 and at most LAMP,");
        ClothPlay p = with(1, 1, 1, 1);
        outline(p, 0, 255, 255, 255, 255, 255, 255, 255, 255);
        told(p, 255, 255, 255, 255, 255, 255, 255, 255);
        due("64 cells by one", p.made(1, 0), 1);
        told(p, 255, 255, 255, 255, 255, 255, 255, 255, 1);
        due("65 cells", p.made(1, 0), NONE);
        due("65 cells, who", p.who(1, 0, 0), NONE);
        p = with(1, 1, 1, 1);
        p.terms(0, 2);
        for (int f = 0; f < 4; f++) {
            outline(p, f, 1);
        }
        told(p, 0b10101);
        due("three of four", p.made(15, 0), 4 * 6);
        for (int f = 0; f < 3; f++) {
            due("the first three, from the left, " + f, p.who(15, f, 1), 2 * f);
        }
        due("not the fourth", p.who(15, 3, 0), 0);
        told(p, 0b1010101);
        due("no four", p.made(15, 0), 0);
        due("only the cast", p.made(0, 0), 0);
        int[][] cells = {{0, 0}, {31, 0}, {0, 15}, {31, 15}};
        for (int[] c : cells) {
            int[] rows = new int[c[1] + 1];
            rows[c[1]] = 1 << c[0];
            told(p, rows);
            due("a corner", p.made(1, 0), 1);
            due("x", p.who(1, 0, 1), c[0]);
            due("y", p.who(1, 0, 2), c[1]);
            due("deep", p.who(1, 0, 3), 2);
        }
        // The one cell is the last of the outline, and no place lies ahead of 0.
        outline(p, 0, 0, 0, 0, 0, 0, 0, 0, 128);
        told(p, 0, 0, 0, 0, 0, 0, 0, 1 << 7);
        due("x 0, y 0", p.made(1, 0), 1);
        told(p, 0, 0, 0, 0, 0, 0, 0, 1 << 6);
        due("x below 0", p.made(1, 0), 0);
        told(p, 0, 0, 0, 0, 0, 0, 1 << 7);
        due("y below 0", p.made(1, 0), 0);
        deepest();
    }

    private static void deepest() {
        ClothPlay p = with(1);
        outline(p, 0, 1);
        p.terms(0, 32);
        told(p, 15, 15, 15, 15);
        due("deep 8 of 32", p.made(1, 0), 1);
        due("it is 8", p.who(1, 0, 3), 8);
        // At DEEP 9 the cell at X 1, Y 0 has the columns 4 .. 6 of the rows 0 .. 3.
        told(p, 0x70, 0x70, 0x70, 0x70);
        due("deep 9", p.made(1, 0), 0);
        p.on(0, 0, 1, 0, 9);
        due("it would be so", p.copy(0), 12);
        told(p, -1, -1);
        due("deep 1 of 32 is higher", p.made(1, 0), 0);
        p.terms(0, 2);
        told(p, 3, 3);
        due("deep 1", p.made(1, 0), 1);
        due("it is 1", p.who(1, 0, 3), 1);
        // At a DEEP of 3 by a lamp at 2 the second column would be passed over.
        outline(p, 0, 3);
        told(p, 1);
        due("deeper than the lamp", p.made(1, 0), 0);
    }

    private static void madeOwnCells() {
        says("so that all their SHADOWS together have just its CELLS, and each has a CELL that no other one of them has.");
        ClothPlay p = with(1, 1, 1);
        p.terms(0, 2);
        outline(p, 0, 3);
        outline(p, 1, 1);
        outline(p, 2, 7);
        told(p, 3);
        due("one has no cell of its own", p.made(3, 0), 1);
        due("too much", p.made(4, 0), 0);
        due("too little", p.made(2, 0), 0);
        told(p, 7);
        due("beside one another", p.made(3, 0), 2);
        due("a third has none of its own", p.made(7, 0), 3);
        told(p, 15);
        due("two that overlap", p.made(5, 0), 2);
        due("one beside the wide one", p.made(6, 0), 2);
        due("no third between them", p.made(7, 0), 4);
        told(p, 0);
        due("no cells", p.made(7, 0), 1);
        told(p, 1 << 31);
        due("cut off by the edge", p.made(1, 0), 1);
        due("where", p.who(1, 0, 1), 31);
        told(p, 2);
        due("no cell may be too many: ahead", p.made(1, 0), 0);
        told(p, 1);
        due("no cell may be too many: behind", p.made(1, 0), 0);
        outline(p, 0, 1, 1);
        told(p, 0, 1);
        due("no cell may be too many: above", p.made(1, 0), 0);
        told(p, 1, 0);
        due("no cell may be too many: below", p.made(1, 0), 0);
    }

    private static void madeCounted() {
        says("Ways are counted by FIGURES, each with the SHADOW it makes (of places that make the same one"
            + " the first by DEEP, X, Y is told).");
        ClothPlay p = with(1, 1);
        outline(p, 0, 1);
        outline(p, 1, 1);
        int[] rows = new int[16];
        rows[15] = 1 << 31;
        told(p, rows);
        due("deep 6, 7 and 8 make the same", p.made(1, 0), 1);
        due("by either figure", p.made(3, 0), 2);
        due("the least deep", p.who(1, 0, 3), 6);
        due("its x", p.who(1, 0, 1), 23);
        due("its y", p.who(1, 0, 2), 11);
        // The last cell of the sheet by either cell, the other one being cut off.
        p.terms(0, 2);
        outline(p, 0, 2, 1);
        told(p, rows);
        due("two places", p.made(1, 0), 1);
        due("the lower x", p.who(1, 0, 1), 30);
        due("not the lower y", p.who(1, 0, 2), 15);
        // Of an earlier SHEET's two SHADOWS of the second FIGURE the next SHEET has one.
        p = with(1, 1, 1);
        p.terms(0, 2);
        outline(p, 0, 1);
        outline(p, 1, 3);
        outline(p, 2, 1);
        told(p, 0b111);
        due("an end by either, the rest by the second", p.made(7, 0), 4);
        told(p, 0b101011);
        due("the second on the left alone", p.made(7, 0), 2);
        foundAll();
    }

    private static void foundAll() {
        // One object for many: what it found of an earlier SHEET must not show in the next.
        Random random = new Random(5);
        ClothPlay p = null;
        int[][] cells = {{1}, {7, 7, 7}, {255, 255, 255, 255}, {15, 9, 9, 15}};
        for (int k = 0; k < 60; k++) {
            if (k % 6 == 0) {
                p = with(1, 1, 1, 1);
                for (int f = 0; f < 4; f++) {
                    outline(p, f, cells[f]);
                }
            }
            int lamp = k % 3 == 0 ? 8 : 2 + random.nextInt(10);
            p.terms(0, lamp);
            for (int f = 0; f < 4; f++) {
                p.off(f, 0);
            }
            for (int f = 0; f < 3; f++) {
                p.on((f + k) % 4, 0, random.nextInt(5), random.nextInt(4), Math.max(1, lamp - random.nextInt(4)));
            }
            int[] rows = new int[16];
            p.copy(0);
            for (int r = 0; r < 16; r++) {
                rows[r] = p.sheet(r);
            }
            if (p.count(5) <= 64) {
                asAll(p, new Ways(cells, rows, lamp));
            }
        }
        holes(1, 128);
        holes(128, 128);
        holes(8, 16);
        for (int row = 0; row < 8; row++) {
            comb(row, row / 2 * 2);
        }
    }

    /** Four columns apart, of which two FIGURES leave out one CELL: one of many small SHADOWS must fill it. */
    private static void comb(int row, int column) {
        int[][] cells = {new int[8], new int[8], {1}, {1, 1}};
        for (int j = 0; j < 8; j++) {
            cells[0][j] = 0x55;
            cells[1][j] = j == row ? 0x55 & ~(1 << column) : 0x55;
        }
        int[] rows = new int[16];
        for (int r = 0; r < 16; r++) {
            rows[r] = 0x55 << 16;
        }
        ClothPlay p = with(1, 1, 1, 1);
        for (int f = 0; f < 4; f++) {
            outline(p, f, cells[f]);
        }
        told(p, rows);
        asAll(p, new Ways(cells, rows, 8));
    }

    /** Eight by eight CELLS, of which one FIGURE leaves out two that the others may fill, each in many places. */
    private static void holes(int above, int below) {
        ClothPlay p = with(1, 1, 1, 1);
        int[][] cells = {{1}, {255 & ~above, 255, 255, 255, 255, 255, 255, 255 & ~below}, {1, 1}, {3}};
        for (int f = 0; f < 4; f++) {
            outline(p, f, cells[f]);
        }
        int[] rows = {255, 255, 255, 255, 255, 255, 255, 255};
        told(p, rows);
        asAll(p, new Ways(cells, rows, 8));
    }

    private static void asAll(ClothPlay p, Ways ways) {
        due("ways", p.made(15, 0), ways.count);
        due("fewest", p.made(15, 1), ways.fewest);
        for (int f = 0; f < 4 && ways.fewest != NONE; f++) {
            int[] place = ways.first[f];
            due("in it", p.who(15, f, 0), place == null ? 0 : 1);
            due("deep", p.who(15, f, 3), place == null ? NONE : place[0]);
            due("x", p.who(15, f, 1), place == null ? NONE : place[1]);
            due("y", p.who(15, f, 2), place == null ? NONE : place[2]);
        }
    }

    // ---- IV: shows, rows, images

    private static void draws() {
        says("A SHOW with a SEED, by the FIRST of LEAST: s is the SEED (0 .. 1,000,000); a DRAW of n:"
            + " s becomes (s times 1103 and 12345) modulo 1,000,003, it is s modulo n.");
        // 12345, 36; 1,000,000 times 1103 leaves -3309.
        drawn(0, 45);
        drawn(1, 48);
        drawn(85, 0);
        drawn(18, 99);
        drawn(1000000, 36);
        ClothPlay p = with(1);
        due("-1", p.show(-1), -1);
        due("1000001", p.show(1000001), -1);
        due("lowest", p.show(LOW), -1);
        due("highest", p.show(HIGH), -1);
        play(p, "beat 0 to 1 0 at 0,0 deep 1;bars if helper=0 and beat=1;slip 100 if helper=1");
        due("by the first of least", p.show(0), 2);
    }

    /** The first DRAW: what "slip" tells must be above it. */
    private static void drawn(int seed, int draw) {
        ClothPlay p = with(1);
        play(p, "beat 5 0 at 0,0 deep 1;slip " + draw);
        due("seed " + seed + ", slip " + draw, p.show(seed), 0);
        due("not slipped", p.slipped(5), 0);
        play(p, "beat 5 0 at 0,0 deep 1;slip " + (draw + 1));
        due("seed " + seed + ", slip " + (draw + 1), p.show(seed), 1);
        due("slipped", p.slipped(5), 1);
    }

    private static void slipping() {
        says("BEAT by BEAT, FIGURE by FIGURE that is on a DRAW of 100: below what \"slip\" tells"
            + " (helper: who holds it; 0 .. 100, else the nearest; 0 without) it SLIPS.");
        int[] draws = new int[4];
        long s = 0;
        for (int k = 0; k < draws.length; k++) {
            s = (s * 1103 + 12345) % 1000003;
            draws[k] = (int) (s % 100);
        }
        ClothPlay p = with(1, 1, 1);
        String order = "beat 1 0 at 0,0 deep 1;beat 1 2 at 0,0 deep 1;beat 4 1 at 0,0 deep 1;beat 11 0 at 0,0 deep 1";
        int[] beats = {1, 1, 4, 11};
        int[] who = {0, 2, 1, 0};
        for (int told = 0; told <= 100; told++) {
            play(p, order + ";slip " + told);
            int[] bits = new int[12];
            int slips = 0;
            for (int k = 0; k < 4; k++) {
                bits[beats[k]] |= draws[k] < told ? 1 << who[k] : 0;
                slips += draws[k] < told ? 1 : 0;
            }
            due("slips by " + told, p.show(0), slips);
            for (int beat : beats) {
                due("slipped on " + beat + " by " + told, p.slipped(beat), bits[beat]);
            }
            p = with(1, 1, 1);
        }
        String[] laws = {"pass 1", "slip 100", "slip 101", "slip 1000*1000*1000", "slip 0", "slip 0-1", "slip 0-1000*1000*1000",
            "slip 1/0", "slip 100 if helper=0", "slip 100 if helper>0", "slip 100 if other>0-1"};
        int[] slips = {0, 4, 4, 4, 0, 0, 0, 0, 4, 0, 0};
        for (int k = 0; k < laws.length; k++) {
            p = with(1, 1, 1);
            play(p, order + ";" + laws[k]);
            due(laws[k], p.show(18), slips[k]);
            p = with(1);
            play(p, "beat 5 0 at 0,0 deep 1;" + laws[k]);
            due(laws[k] + ", a draw of 0", p.show(85), Math.min(1, slips[k]));
        }
    }

    private static void rows() {
        says("A ROW: the TAPE's bytes become an OUTLINE (8 at most, row by row), or the told SHEET (four bytes for each row,"
            + " the highest first, bit c of these for column c; 16 rows at most); rows for which there are no bytes"
            + " are empty; bytes beyond are TORN (for the SHEET: also those of a row that breaks off).");
        for (int many : new int[] {1, 2, 7, 8, 9, 20, 399, 400}) {
            ClothPlay p = with(1);
            outline(p, 0, 9, 9, 9, 9, 9, 9, 9, 9);
            int[] bytes = new int[many];
            for (int k = 0; k < many; k++) {
                bytes[k] = 1 << k % 8;
            }
            due("outline of " + many, outline(p, 0, bytes), Math.min(8, many));
            for (int j = 0; j < 8; j++) {
                due("row " + j, p.outline(0, j), j < many ? 1 << j : 0);
            }
            due("torn of " + many, p.torn(), Math.max(0, many - 8));
        }
        for (int many : new int[] {1, 3, 4, 5, 60, 63, 64, 65, 67, 68, 399, 400}) {
            ClothPlay p = new ClothPlay();
            told(p, -1, -1, -1, -1, -1, -1, -1, -1, -1, -1, -1, -1, -1, -1, -1, -1);
            int[] bytes = new int[many];
            for (int k = 0; k < many; k++) {
                bytes[k] = k % 4 == 0 ? 128 : k % 4 == 3 ? 1 : 0;
            }
            int whole = Math.min(16, many / 4);
            bytes(p, bytes);
            due("sheet of " + many, p.row(NONE), 2 * whole);
            for (int r = 0; r < 16; r++) {
                due("row " + r, p.sheet(r), r < whole ? 0x80000001 : 0);
            }
            due("torn of " + many, p.torn(), many - 4 * whole);
        }
        ClothPlay p = new ClothPlay();
        bytes(p, 1, 2, 4, 8);
        p.row(NONE);
        due("the highest first", p.sheet(0), 1 << 24 | 1 << 17 | 1 << 10 | 1 << 3);
    }

    private static void images() {
        says("IMAGES 0, 1 keep all but the TAPE, FAULT, TORN, the latest SHOW; BACK to one all that it keeps is as it was then"
            + " (IMAGES stay).");
        ClothPlay p = new ClothPlay();
        due("image 2", p.image(2), -1);
        due("image -1", p.image(-1), -1);
        full(p);
        p.image(0);
        empty(p);
        p.image(1);
        // TAPE, FAULT, TORN and SHOW are of now, the rest is of the image.
        p.feed(0, 0, 0, 0, 0);
        p.back(0);
        due("tape", p.count(6), 20);
        due("fault", p.fault(), 4);
        due("torn", p.torn(), 1);
        due("show", p.slipped(0), 0);
        for (int turn = 0; turn < 2; turn++) {
            isFull(p);
            due("to the other", p.back(1), 0);
            isEmpty(p);
            due("to the first", p.back(0), 0);
        }
        isFull(p);
    }

    private static void full(ClothPlay p) {
        int[] terms = {9, 2, 2, 1, 3, 17, 4};
        for (int what = 0; what < 7; what++) {
            p.terms(what, terms[what]);
        }
        p.figure(2);
        p.figure(1);
        outline(p, 0, 1, 2, 4, 8, 16, 32, 64, 128);
        outline(p, 1, 3, 3);
        play(p, "beat 0 to 11 0 at 1,2 deep 3;beat 0 1 at 4,5 deep 6;pass 3;slip 100;bars if helper=0");
        told(p, 5, 0, 7);
        p.show(0);
    }

    private static void empty(ClothPlay p) {
        play(p, "beat 0 to 11 0 at 9,8 deep 7;beat 0 to 11 1 at 9,8 deep 7");
        int[] terms = {10, 3, 3, 0, 2, 18, 5};
        for (int what = 0; what < 7; what++) {
            p.terms(what, terms[what]);
        }
        p.sticks(0, 1);
        p.sticks(1, 2);
        p.figure(1);
        play(p, "bars");
        told(p, 0, 1);
        outline(p, 0, 0);
        outline(p, 1, 0, 0, 0, 0, 0, 0, 0, 0, 9);
        p.show(0);
        play(p, "pass");
    }

    private static void isFull(ClothPlay p) {
        int[] counts = {2, 5, 13, 12, 2, 5};
        for (int what = 0; what < counts.length; what++) {
            due("count " + what, p.count(what), counts[what]);
        }
        int[] terms = {9, 2, 2, 1, 3, 17, 4};
        for (int what = 0; what < 7; what++) {
            due("term " + what, p.terms(what, terms[what]), terms[what]);
        }
        due("sticks", p.sticks(0, 2) * 10 + p.sticks(1, 1), 21);
        due("outline", p.outline(0, 7) + p.outline(1, 1), 131);
        due("place", p.of(0, 11, 1) * 100 + p.of(0, 11, 2) * 10 + p.of(0, 11, 3), 123);
        due("sheet", p.sheet(2), 7);
        due("laws", p.holder(0, 0), 1);
        due("ways", p.least(1), 4);
    }

    private static void isEmpty(ClothPlay p) {
        int[] counts = {3, 1, 0, 0, 0, 1};
        for (int what = 0; what < counts.length; what++) {
            due("count " + what, p.count(what), counts[what]);
        }
        int[] terms = {10, 3, 3, 0, 2, 18, 5};
        for (int what = 0; what < 7; what++) {
            due("term " + what, p.terms(what, terms[what]), terms[what]);
        }
        due("sticks", p.sticks(0, 1) * 10 + p.sticks(1, 2), 12);
        due("outline", p.outline(0, 7) + p.outline(1, 1), 0);
        due("off", p.of(0, 11, 0), 0);
        due("sheet", p.sheet(1), 1);
        due("ways", p.least(1), 1);
    }
}
