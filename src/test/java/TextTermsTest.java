/** Terms I and II of the document, sentence by sentence: figures, terms, refusals; the play's text and what it tells. */
public final class TextTermsTest extends Bench {
    public static void main(String[] args) {
        calls();
        figures();
        terms();
        beats();
        refusals();
        tapeAndTokens();
        clauses();
        tests();
        sums();
        limits();
        faults();
        taking();
        asking();
        breaking();
        holding();
        allSaid("An object is used", "## The public face");
        allSaid("I. FIGURES 0", "III. The SHEET");
        finish();
    }

    private static void calls() {
        says("An object is used for at most 512 calls after it has been made; what later calls answer is free.");
        ClothPlay p = new ClothPlay();
        p.figure(2);
        for (int k = 2; k <= 511; k++) {
            p.terms(5, k % 32);
        }
        due("the 512th call", p.sticks(0, 1), 2);
        for (int k = 0; k < 600; k++) {
            p.figure(k);
            p.feed(k, k, k, k, k);
            p.least(0);
        }
        due("later ones only must not throw", 0, 0);
    }

    // ---- I

    private static void figures() {
        says("I. FIGURES 0 .. 5 (6 at most)");
        ClothPlay p = new ClothPlay();
        for (int k = 0; k < 6; k++) {
            due("figure " + k, p.figure(1), k);
        }
        due("a seventh", p.figure(1), -5);
        due("six", p.count(0), 6);
        due("the last is there", p.on(5, 0, 0, 0, 1), 0);
        due("no other is", p.on(6, 0, 0, 0, 1), -2);

        says(": an OUTLINE of 8 rows of 8 bits (bit k of row j: its cell in column k; none at first)");
        for (int cell = 0; cell < 64; cell++) {
            int[] rows = new int[8];
            rows[cell / 8] = 1 << cell % 8;
            p = standing(at(0, 0, 8));
            due("one cell", outline(p, 0, rows), 1);
            for (int r = 0; r < 16; r++) {
                due("cell " + cell + " on row " + r, p.shadow(0, 0, r), r == cell / 8 ? 1 << cell % 8 : 0);
            }
        }
        due("all of them", outline(p, 0, 255, 255, 255, 255, 255, 255, 255, 255), 64);
        p = with(1);
        p.on(0, 0, 0, 0, 1);
        for (int j = 0; j < 8; j++) {
            due("none at first", p.outline(0, j), 0);
        }
        due("no shadow at first", p.seen(0, 0, 0), 0);

        says(", STICKS 1 or 2.");
        p = with(1, 2);
        for (int bad : new int[] {0, 3, -1, LOW, HIGH}) {
            due("figure with " + bad, p.figure(bad), -1);
            due("sticks " + bad, p.sticks(0, bad), -1);
        }
        due("1 is", p.sticks(0, 2), 1);
        due("2 is", p.sticks(1, 1), 2);
        due("no other figure came", p.count(0), 2);
    }

    private static void terms() {
        term("TERMS: 0 LAMP 2 .. 32 (8 at first; how far from the sheet)", 0, 2, 32, 8);
        term("1 WIDE 0 .. 16 (1; the lamp's flame)", 1, 0, 16, 1);
        term("2 HELPERS 0 .. 3 (3)", 2, 0, 3, 3);
        term("3 TEETH 0 or 1 (0)", 3, 0, 1, 0);
        term("4 HOOKS 0 .. 6 (0)", 4, 0, 6, 0);
        term("5 REACH 0 .. 31 (8)", 5, 0, 31, 8);
        term("6 ARM 0 .. 31 (8)", 6, 0, 31, 8);
    }

    private static void term(String words, int what, int low, int high, int first) {
        says(words);
        ClothPlay p = new ClothPlay();
        due("at first", p.terms(what, low), first);
        due("below", p.terms(what, low - 1), -1);
        due("far below", p.terms(what, LOW), -1);
        due("lowest stays", p.terms(what, high), low);
        due("beyond", p.terms(what, high + 1), -1);
        due("far beyond", p.terms(what, HIGH), -1);
        due("highest stays", p.terms(what, low), high);
    }

    private static void beats() {
        says("BEATS 0 .. 11.");
        ClothPlay p = with(1);
        due("first", p.on(0, 0, 0, 0, 1), 0);
        due("last", p.on(0, 11, 0, 0, 1), 0);
        for (int beat : new int[] {-1, 12, LOW, HIGH}) {
            due("on " + beat, p.on(0, beat, 0, 0, 1), -1);
            due("off " + beat, p.off(0, beat), -1);
            due("copy " + beat, p.copy(beat), -1);
            due("of " + beat, p.of(0, beat, 0), NONE);
            due("shadow " + beat, p.shadow(0, beat, 0), 0);
            due("shadow of all " + beat, p.shadow(NONE, beat, 0), 0);
            due("seen " + beat, p.seen(0, beat, 2), NONE);
            due("common " + beat, p.common(0, 0, beat), NONE);
            due("holds " + beat, p.holds(0, beat, 0), NONE);
            due("holdings " + beat, p.holdings(beat), NONE);
            due("holder " + beat, p.holder(0, beat), NONE);
            due("slipped " + beat, p.slipped(beat), NONE);
        }
        due("two beats with any", p.count(3), 2);

        says("On each BEAT a FIGURE is off (at first), or at X 0 .. 31, Y 0 .. 15 and DEEP 1 .. LAMP"
            + " (how far from the lamp).");
        p = with(1);
        for (int beat = 0; beat < 12; beat++) {
            due("off at first on " + beat, p.of(0, beat, 0), 0);
        }
        due("lowest", p.on(0, 3, 0, 0, 1), 0);
        place(p, 3, 0, 0, 1);
        due("highest", p.on(0, 3, 31, 15, 8), 0);
        place(p, 3, 31, 15, 8);
        int[][] bad = {{-1, 0, 1}, {32, 0, 1}, {LOW, 0, 1}, {HIGH, 0, 1}, {0, -1, 1}, {0, 16, 1}, {0, LOW, 1}, {0, HIGH, 1},
            {0, 0, 0}, {0, 0, -1}, {0, 0, 33}, {0, 0, LOW}, {0, 0, HIGH}};
        for (int[] b : bad) {
            due("can't be", p.on(0, 3, b[0], b[1], b[2]), -1);
        }
        place(p, 3, 31, 15, 8);
        due("the lamp is the deepest", p.on(0, 3, 1, 2, 9), 0);
        place(p, 3, 1, 2, 8);
        due("no other beat", p.count(2), 1);
    }

    private static void place(ClothPlay p, int beat, int x, int y, int deep) {
        due("on", p.of(0, beat, 0), 1);
        due("x", p.of(0, beat, 1), x);
        due("y", p.of(0, beat, 2), y);
        due("deep", p.of(0, beat, 3), deep);
    }

    private static void refusals() {
        says("REFUSED by: -1 a number that can't be; -2 there is no such FIGURE, IMAGE; -3 it can't be by what stands;"
            + " -5 no room; -6 a TEXT, a ROW that can't be.");
        ClothPlay p = standing(at(0, 0, 1));
        refused(p, "a number", p.terms(0, 1), -1, 7);
        refused(p, "no figure", p.sticks(1, 1), -2, 8);
        refused(p, "no image", p.back(0), -2, 8);
        p.terms(2, 0);
        refused(p, "no performance", p.show(0), -3, 9);
        for (int k = 1; k < 6; k++) {
            p.figure(1);
        }
        refused(p, "no room", p.figure(1), -5, 10);
        refused(p, "a text", p.play(), -6, 11);
        refused(p, "a row", p.row(0), -6, 11);
        int[] counts = {1, 2, 1, 1, 2};
        for (int k = 0; k < 5; k++) {
            due("count " + (7 + k), p.count(7 + k), counts[k]);
        }

        says("The first of these in that order.");
        p = standing(at(0, 0, 1));
        p.terms(2, 0);
        due("-1 ahead of -2: sticks", p.sticks(1, 0), -1);
        due("-1 ahead of -2: on, beat", p.on(1, 12, 0, 0, 1), -1);
        due("-1 ahead of -2: on, x", p.on(1, 0, 32, 0, 1), -1);
        due("-1 ahead of -2: on, y", p.on(1, 0, 0, 16, 1), -1);
        due("-1 ahead of -2: on, deep", p.on(1, 0, 0, 0, 0), -1);
        due("-1 ahead of -2: off", p.off(1, 12), -1);
        due("-1 ahead of -2: back", p.back(2), -1);
        due("-1 ahead of -3: show", p.show(-1), -1);
        due("-2 ahead of -6: row", p.row(1), -2);
        for (int k = 1; k < 6; k++) {
            p.figure(1);
        }
        due("-1 ahead of -5: figure", p.figure(0), -1);
        due("each counted once: -1", p.count(7), 9);
        due("each counted once: -2", p.count(8), 1);
        due("none of the others", p.count(9) + p.count(10) + p.count(11), 0);
    }

    private static void refused(ClothPlay p, String what, int got, int by, int counted) {
        due(what, got, by);
        due(what + ", status", p.status(), by);
        due(what + ", counted", Math.min(1, p.count(counted)), 1);
    }

    // ---- II: what is a TEXT

    private static void tapeAndTokens() {
        says("II. A PLAY is a TEXT on a TAPE of at most 400 bytes (none at first: no CLAUSE).");
        due("none at first", new ClothPlay().count(1), 0);
        taken("bars;" + " ".repeat(391) + "bars", 2);
        for (String word : new String[] {"b", "bar", "barsi", "beats", "figur", "1", "?"}) {
            fault(" ".repeat(400 - word.length()) + "^" + word);
        }
        fault("bars;" + " ".repeat(391) + "^barz");
        ClothPlay p = new ClothPlay();
        for (int k = 1; k <= 20; k++) {
            p.feed(0, 0, 0, 0, 0);
        }
        due("no more than 400", p.feed(0, 0, 0, 0, 0), NONE);

        says("TOKENS: longest rows of letters a .. z, of digits, single other bytes, any blanks (32) between.");
        taken("bars if x<1", 1);
        taken("  bars   if x  <  1  ;bars  ", 2);
        taken("pass1if2<x", 1);
        taken("beat0to11 0at0,0deep1", 1);
        fault("^barsif x<1");
        fault("^abars");
        fault("^barsz");
        fault("^ba rs");
        fault("pass ^1001");
        fault("pass 100 ^1");
        fault("pass 1 ^0");
        taken("pass 019+190", 1);
        fault("bars if x<^<1");
        fault("bars if 1=^=1");
        fault("bars;^;bars");
        for (int other : new int[] {0, 9, 10, 13, 31, 33, 95, 96, 123, 127, 128, 160, 225, 255}) {
            fault("bars^" + (char) other + "if x<1");
            fault("bars if x<1^" + (char) other);
        }
        for (int other : new int[] {46, 58, 65, 90}) {
            fault("pass 1^" + (char) other);
        }
        fault("^Bars");
        fault("^barS");
    }

    private static void clauses() {
        says("CLAUSE {\";\" CLAUSE}, 24 at most (FAULT at the 25th's first TOKEN).");
        taken("bars", 1);
        taken("bars" + ";bars".repeat(23), 24);
        fault("bars" + ";bars".repeat(23) + ";^bars");
        fault("bars" + ";bars".repeat(23) + ";  ^beat 0 0 off");
        fault("bars" + ";bars".repeat(23) + ";^");
        fault("bars" + ";bars".repeat(23) + "; ^;");
        taken("beat 0 0 off" + ";beat 0 0 off".repeat(23), 24);
        fault("beat 0 0 off" + ";beat 0 0 off".repeat(23) + ";^bars");
        ClothPlay last = with(1);
        due("23 and one", play(last, "beat 0 0 at 0,0 deep 1" + ";slip 0".repeat(22) + ";slip 100"), 24);
        due("the 24th tells", last.show(0), 1);
        due("24 laws", play(last, "slip 100" + ";bars if x<0".repeat(23)), 24);
        last.on(0, 0, 0, 0, 1);
        due("the first of 24 tells", last.show(0), 1);
        due("24 laws of one head", play(last, "slip 0" + ";slip 0".repeat(22) + ";slip 100"), 24);
        last.on(0, 0, 0, 0, 1);
        due("the last of 24 tells", last.show(0), 1);
        for (int k = 0; k < 12; k++) {
            due("laws come anew", play(last, "slip 1" + "+1".repeat(48) + ";beat 0 0 at 0,0 deep 1"), 2);
        }
        due("nothing is left of the old ones", play(last, "slip 100 if x=0;beat 0 0 at 0,0 deep 1"), 2);
        due("they tell", last.show(0), 1);
        due("24 places", play(last, "beat 0 0 off;".repeat(23) + "beat 11 0 at 0,0 deep 1"), 24);
        due("the last of them", last.of(0, 11, 0), 1);
        fault("^;bars");
        fault("bars;^");
        fault("bars ^bars");
        for (String word : "figure helper other x y deep sticks to at off if or and not 0 1 ( [ bar passs beats".split(" ")) {
            fault("^" + word + " 1");
            fault("bars; ^" + word + " 1 if x<1");
        }

        says("CLAUSE: \"beat\" BEAT [\"to\" BEAT] FIGURE (\"at\" X \",\" Y \"deep\" DEEP | \"off\")");
        String[] begun = {"beat", "beat 0", "beat 0 to", "beat 0 to 1", "beat 0 0", "beat 0 0 at", "beat 0 0 at 1",
            "beat 0 0 at 1,", "beat 0 0 at 1,1", "beat 0 0 at 1,1 deep"};
        for (String text : begun) {
            fault(text + "^");
            fault(text + "  ^;");
            fault(text + " ^[1]");
        }
        String[] wrong = {"beat ^to 1 0 off", "beat 0 ^off", "beat 0 to ^to 1 0 off", "beat 0 0 ^to 1 off",
            "beat 0 0 ^deep 1", "beat 0 0 at 1 ^1 deep 1", "beat 0 0 at 1,^,1 deep 1", "beat 0 0 at 1,1 ^1",
            "beat 0 0 at 1,1 ^off", "beat 0 0 at 1,1 deep ^x", "beat 0 0 at 1,1 deep 1 ^if x<1", "beat 0 0 off ^off",
            "beat 0 0 off ^if x<1", "beat 0 0 off ^at 1,1 deep 1"};
        for (String text : wrong) {
            fault(text);
        }
        taken("beat 0 0 off", 1);
        taken("beat 11 5 off", 1);
        taken("beat 0 to 11 0 off", 1);
        taken("beat 0 to 0 0 at 31,15 deep 32", 1);
        for (String bad : new String[] {"12", "99", "4294967296", "18446744073709551616"}) {
            fault("beat ^" + bad + " 0 off");
            fault("beat 0 to ^" + bad + " 0 off");
        }
        for (String bad : new String[] {"32", "4294967297", "18446744073709551617"}) {
            fault("beat 0 0 at ^" + bad + ",0 deep 1");
        }
        for (String bad : new String[] {"16", "4294967297", "18446744073709551617"}) {
            fault("beat 0 0 at 0,^" + bad + " deep 1");
        }
        fault("beat ^-1 0 off");
        fault("beat 0 0 at ^-1,0 deep 1");

        says("| \"pass\" SUM [\"if\" TEST] | \"slip\" SUM [\"if\" TEST] | \"bars\" [\"if\" TEST].");
        for (String head : new String[] {"pass", "slip"}) {
            taken(head + " 1", 1);
            taken(head + " 1 if x<1", 1);
            fault(head + "^");
            fault(head + " ^if x<1");
            fault(head + " 1 ^x<1");
            fault(head + " 1 ^1");
            fault(head + " 1 if^");
            fault(head + " 1 if ^;");
            fault(head + " 1 if x<1 ^if x<1");
            fault(head + " x^<1");
        }
        taken("bars", 1);
        taken("bars if x<1", 1);
        fault("bars ^1");
        fault("bars ^x<1");
        fault("bars if^");
        fault("bars if x<1 ^if x<1");
    }

    private static void tests() {
        says("TEST: BOTH {\"or\" BOTH}.");
        so("1=2 or 1=2 or 1=1", true);
        so("1=2 or 1=2 or 1=2", false);
        fault("bars if ^or x<1");
        fault("bars if x<1 or^");
        fault("bars if x<1 or ^or x<1");
        says("BOTH: PLAIN {\"and\" PLAIN}.");
        so("1=1 and 1=1 and 1=1", true);
        so("1=1 and 1=1 and 1=2", false);
        so("1=1 or 1=1 and 1=2", true);
        so("1=2 and 1=1 or 1=1", true);
        fault("bars if ^and x<1");
        fault("bars if x<1 and^");
        fault("bars if x<1 and ^and x<1");
        fault("bars if x<1 and ^or x<1");
        says("PLAIN: \"not\" PLAIN | \"(\" TEST \")\" | SUM (\"<\" | \">\" | \"=\") SUM.");
        so("not 1=2", true);
        so("not not 1=2", false);
        so("not 1=2 and 1=2", false);
        so("not (1=2 and 1=2)", true);
        so("not (not 1=1)", true);
        so("not (not 1=2)", false);
        so("(not 1=1) or 1=1", true);
        so("not (not (not 1=1))", false);
        so("(1=1 or 1=1) and 1=2", false);
        so("1<2", true);
        so("2<2", false);
        so("3<2", false);
        so("3>2", true);
        so("2>2", false);
        so("1>2", false);
        so("2=2", true);
        so("1=2", false);
        taken("bars if " + "not ".repeat(97) + "1=1", 1);
        String[] wrong = {"bars if not^", "bars if not ^;", "bars if (^)", "bars if (x<1^", "bars if (x<1^]", "bars if x<1^)",
            "bars if x^", "bars if ^<1", "bars if x<^", "bars if x<1^<2", "bars if (x^)<1", "bars if [x^<1]",
            "bars if (x<1) ^not x<1", "bars if (x<1)^<1", "bars if not (x<1^"};
        for (String text : wrong) {
            fault(text);
        }
    }

    private static void sums() {
        says("SUM: TERM {(\"+\" | \"-\") TERM}.");
        so("10-3-2=5", true);
        so("10-3+2=9", true);
        so("1+2*3=7", true);
        fault("pass 1+^");
        fault("pass ^+1");
        fault("pass ^-1");
        fault("pass 1-^-1");
        says("TERM: PART {(\"*\" | \"/\") PART}.");
        so("8/2/2=2", true);
        so("7/2*2=6", true);
        so("2*7/4=3", true);
        fault("pass 1*^");
        fault("pass ^*1");
        fault("pass 1/^/1");
        fault("pass 1/^-1");
        says("PART: NUMBER (to 1,000) | \"[\" SUM \"]\" | \"figure\" | \"beat\" | \"helper\" | \"other\" | \"x\" | \"y\""
            + " | \"deep\" | \"sticks\".");
        so("[1+2]*3=9", true);
        so("0+1000=500*2", true);
        for (String word : "figure beat helper other x y deep sticks 0 1000 0000001000 [1] [[x]]".split(" ")) {
            taken("pass " + word, 1);
        }
        for (String word : "to at off pass slip bars if or and not figures fig sum xx z ( < 1001 9999 4294967296 4294967297"
            .split(" ")) {
            fault("pass ^" + word);
        }
        fault("pass ^18446744073709551617");
        fault("pass ^" + "9".repeat(390));
        taken("pass " + "0".repeat(390) + "7", 1);
        fault("pass [^]");
        fault("pass [1^");
        fault("pass [1^)");
        fault("pass 1^]");
    }

    private static void limits() {
        says("FIGURE 0 .. 5, DEEP 1 .. 32; the second BEAT not below the first (FAULT at it).");
        taken("beat 0 0 at 0,0 deep 1", 1);
        taken("beat 0 5 at 0,0 deep 32", 1);
        fault("beat 0 ^6 off");
        fault("beat 0 ^4294967296 off");
        fault("beat 0 0 at 0,0 deep ^0");
        fault("beat 0 0 at 0,0 deep ^33");
        fault("beat 0 0 at 0,0 deep ^4294967297");
        taken("beat 7 to 7 0 off", 1);
        taken("beat 7 to 8 0 off", 1);
        fault("beat 7 to ^6 0 off");
        fault("beat 11 to ^0 9 off");

        says("50 PARTS that are NUMBERS and words (FAULT at the 51st), 8 brackets of both kinds within one another"
            + " (FAULT at the 9th) at most.");
        taken("pass 1" + "+1".repeat(49), 1);
        fault("pass 1" + "+1".repeat(49) + "+^1");
        taken("pass x" + "+x".repeat(49), 1);
        fault("pass x" + "+x".repeat(49) + "+^x");
        fault("pass x" + "+1".repeat(24) + ";slip 1" + "+y".repeat(23) + " if x<^1");
        taken("pass x" + "+1".repeat(24) + ";slip 1" + "+y".repeat(22) + " if x<1", 2);
        taken("beat 0 to 1 0 at 0,0 deep 1;beat 3 0 off;pass [1]" + "+[1]".repeat(49), 3);
        fault("beat 0 to 1 0 at 0,0 deep 1;beat 3 0 off;pass [1]" + "+[1]".repeat(49) + "+[^1]");
        taken("pass 1" + "+1".repeat(49) + ";bars;beat 0 0 off", 3);
        taken("pass [[[[[[[[1]]]]]]]]", 1);
        fault("pass [[[[[[[[^[1]]]]]]]]]");
        taken("bars if ((((((((x<1))))))))", 1);
        fault("bars if ((((((((^(x<1)))))))))");
        taken("bars if (((([[[[1]]]]<1))))", 1);
        fault("bars if (((([[[[^[1]]]]]<1))))");
        fault("bars if ((((((((^[1]<1))))))))");
        taken("bars if (((([[[[1]]]]<[[[[1]]]] and ((((x<1))))))))", 1);
        taken("pass [[[[[[[[1]]]]]]]]+[[[[[[[[1]]]]]]]] if ((((((((x<1))))))))", 1);
    }

    private static void faults() {
        says("FAULT: the first TOKEN that can't go on there (the end's: the TEXT's length).");
        fault("^");
        fault("   ^");
        fault("pass^");
        fault("pass   ^");
        fault("pass" + " ".repeat(396) + "^");
        fault("pass 1;   ^");
        fault("   ^pas 1");
        fault("pass 1;   ^pas 1;pas");
        fault("pass 1 ^" + (char) 0);
        fault("beat 0 ^6 at 99,99 deep 99");
    }

    // ---- II: what a PLAY does and tells

    private static void taking() {
        says("A PLAY that is taken puts all FIGURES off on all BEATS, then tells its \"beat\" CLAUSES one by one.");
        ClothPlay p = with(1, 1, 1, 1, 1, 1);
        for (int k = 0; k < 72; k++) {
            p.on(k % 6, k / 6, 1, 1, 1);
        }
        due("a text that is not taken", play(p, "beat 0 0 off;bars if"), -6);
        due("all stay", p.count(2), 72);
        due("a text without a beat", play(p, "bars if x<0"), 1);
        due("all are off", p.count(2), 0);
        play(p, "beat 0 to 11 5 at 1,1 deep 1;beat 3 to 5 5 off;beat 4 5 at 31,15 deep 32");
        int[] x = {1, 1, 1, -1, 31, -1, 1, 1, 1, 1, 1, 1};
        for (int beat = 0; beat < 12; beat++) {
            due("x on " + beat, p.of(5, beat, 1), x[beat]);
        }
        play(p, "beat 3 to 5 5 off;beat 4 to 11 5 at 2,1 deep 1;beat 0 to 4 5 at 3,1 deep 1");
        for (int beat = 0; beat < 12; beat++) {
            due("the later one tells, on " + beat, p.of(5, beat, 1), beat < 5 ? 3 : 2);
        }
        p = new ClothPlay();
        play(p, "beat 0 0 at 1,2 deep 3");
        due("a figure to come is not there", p.of(0, 0, 0), NONE);
        p.figure(1);
        due("it comes on", p.of(0, 0, 1), 1);
        notThereYet();

        says("DEEP beyond the LAMP counts as the LAMP.");
        for (int lamp : new int[] {2, 8, 31, 32}) {
            for (int deep : new int[] {1, lamp - 1, lamp, lamp + 1, 32}) {
                if (deep <= 32) {
                    p = standing(at(0, 0, deep));
                    p.terms(0, lamp);
                    due("deep", p.of(0, 0, 3), Math.min(deep, lamp));
                    due("blur", p.seen(0, 0, 2), 100 * (lamp - Math.min(deep, lamp)) / Math.min(deep, lamp));
                }
            }
        }
        p = standing(at(0, 0, 32), at(0, 0, 8), at(0, 0, 7));
        due("one cell, as at the sheet", p.seen(0, 0, 0), 1);
        due("alike, so the lower hides", p.seen(1, 0, 1), 1);
        p.off(2, 0);
        due("and is not hidden", p.seen(0, 0, 1), 0);
        p.terms(6, 0);
        due("no arm is needed", p.holds(0, 0, 3), 1);
        p.terms(0, 9);
        due("now it is", p.holds(0, 0, 3), 0);
        p.terms(0, 32);
        due("as told, when the lamp is far", p.of(0, 0, 3), 32);
        p = with(1);
        play(p, "beat 0 0 at 0,0 deep 9;slip 100 if deep=8");
        due("the word deep", p.show(0), 1);
        p.terms(0, 9);
        due("by another lamp", p.show(0), 0);
    }

    /** A FIGURE that the PLAY told and that is not there yet is nowhere to be seen. */
    private static void notThereYet() {
        ClothPlay p = standing(at(0, 0, 1));
        due("two figures told", play(p, "beat 0 0 at 0,0 deep 8;beat 0 to 1 1 at 0,0 deep 7"), 2);
        due("of", p.of(1, 0, 0), NONE);
        due("off", p.off(1, 0), -2);
        due("shadow", p.shadow(1, 0, 0), 0);
        due("seen", p.seen(1, 0, 2), NONE);
        due("common", p.common(0, 1, 0), NONE);
        due("holds", p.holds(0, 0, 2), NONE);
        due("holder", p.holder(1, 0), NONE);
        due("passed", p.passed(1), NONE);
        due("holdings", p.holdings(0), 3);
        due("ways", p.least(1), 3);
        due("on together", p.count(2), 1);
        due("beats", p.count(3), 1);
        due("at once", p.count(4), 1);
        p.figure(1);
        outline(p, 1, 1);
        due("there now: hidden by it", p.seen(0, 0, 1), 1);
        due("there now: on together", p.count(2), 3);
        due("there now: ways", p.least(1), 9);
    }

    private static void asking() {
        says("It is asked of a FIGURE on a BEAT (x, y, deep as it is then, sticks), a helper 0 .. 2, 3 the HOOKS,"
            + " and other: to whom it is passed (else -1).");
        so("figure=0 and beat=2 and helper=0 and other=0-1 and x=6 and y=4 and deep=3 and sticks=2", true);
        ClothPlay p = with(1, 1);
        p.terms(4, 1);
        play(p, "beat 0 to 1 1 at 31,15 deep 7;bars if other>0-1");
        for (int helper = 0; helper < 4; helper++) {
            due("bars: other is -1", p.holds(helper, 0, 2), 1);
        }
        for (int helper = 0; helper < 4; helper++) {
            play(p, "beat 0 to 1 1 at 31,15 deep 7;bars if helper=" + helper + " and figure=1 and beat=1 and x=31 and y=15"
                + " and deep=7 and sticks=1");
            for (int other = 0; other < 4; other++) {
                due("helper " + other, p.holds(other, 1, 2), other == helper ? 0 : 1);
                due("another beat, " + other, p.holds(other, 0, 2), 1);
            }
        }
        // To the last helper alone, then to the hooks alone, then back to the first alone.
        String ways = "beat 0 0 at 1,1 deep 1;beat 1 to 2 0 at 2,3 deep 4;beat 3 0 at 5,6 deep 7;"
            + "bars if not (beat<2 and helper=2 or beat=2 and helper=3 or beat=3 and helper=0);";
        play(p, ways + "pass 9;pass 2 if beat=2 and helper=2 and other=3 and x=2;pass 3 if beat=3 and helper=3 and other=0"
            + " and x=5 and y=6 and deep=7");
        due("passed to hooks and back", p.least(0), 5);
        play(p, ways + "slip 100 if helper=2 and beat=0 or helper=3 and beat=2 and other=0-1");
        due("slips by who holds it", p.show(7), 2);
        due("the helper", p.slipped(0), 1);
        due("the hooks", p.slipped(2), 1);
    }

    private static void breaking() {
        says("Beyond 1,000,000,000 either way, or divided by 0, a SUM, a TEST is BROKEN; / is cut towards 0.");
        String most = "1000*1000*1000";
        so(most + ">0", true);
        so(most + "+0>0", true);
        so(most + "+1>0", false);
        so("1+" + most + ">0", false);
        so("0-" + most + "<0", true);
        so("0-" + most + "-0<0", true);
        so("0-" + most + "-1<0", false);
        so("[0-1]*" + most + "<0", true);
        so("[0-1]-" + most + "<0", false);
        so(most + "*2>0", false);
        so(most + "*[0-2]<0", false);
        so("[0-" + most + "]*[0-1]>0", true);
        so("[0-" + most + "]*[0-2]>0", false);
        // 5,000,000,000 would come back as a number of 32 bits.
        so(most + "*5>0", false);
        so(most + "*[" + most + "]>0", false);
        so(most + "*2/2>0", false);
        so(most + "+1-1>0", false);
        so("[" + most + "+1]*0=0", false);
        so("not " + most + "+1<0", false);
        so("1/0=1", false);
        so("0/0=0", false);
        so("not 1/0=1", false);
        so("1/[x-6]=1", false);
        so("1/[x-5]=1", true);
        so("0/1=0", true);
        so("7/2=3", true);
        so("[0-7]/2=0-3", true);
        so("7/[0-2]=0-3", true);
        so("[0-7]/[0-2]=3", true);
        so("1/2=0", true);
        so("[0-1]/2=0", true);
    }

    private static void holding() {
        says("A CLAUSE HOLDS, if its \"if\" (if it has one) is so, and neither that nor its SUM is BROKEN"
            + " (\"or\", \"and\" ask what stands behind only if it can still matter).");
        due("without an if", slips("slip 100"), 1);
        due("if so", slips("slip 100 if 1=1"), 1);
        due("if not so", slips("slip 100 if 1=2"), 0);
        due("a broken sum", slips("slip 100+1/0"), 0);
        due("a broken sum, if so", slips("slip 100+1/0 if 1=1"), 0);
        due("a broken test", slips("slip 100 if 1/0=0"), 0);
        so("1=1 or 1/0=1", true);
        so("1=2 or 1/0=1", false);
        so("1/0=1 or 1=1", false);
        so("1=2 and 1/0=1", false);
        so("not (1=2 and 1/0=1)", true);
        so("not (1=1 and 1/0=1)", false);
        so("not (1/0=1 and 1=2)", false);
        so("1=1 or 1=2 or 1/0=1", true);
        so("1=2 or 1=1 or 1/0=1", true);
        so("1=2 and 1/0=1 or 1=1", true);
        so("1=1 or 1=1 and 1/0=1", true);
        so("1=1 and (1=1 or 1/0=1)", true);
        so("1=2 and 1=1 and 1/0=1 or 1=1", true);
        so("1=1 and 1=2 and 1/0=1 or 1=1", true);
        due("bars by a broken test bars none", barsHold("bars if 1/0=1"), 0);
        due("bars without an if", barsHold("bars"), 1);

        says("Told by a HEAD (\"pass\", \"slip\", \"bars\") is what the last CLAUSE with it that HOLDS tells.");
        due("the last", slips("slip 0;slip 100"), 1);
        due("not the first", slips("slip 100;slip 0"), 0);
        due("not so", slips("slip 100;slip 0 if 1=2"), 1);
        due("broken", slips("slip 100;slip 0 if 1/0=1;slip 1/0"), 1);
        due("other heads", slips("slip 100;pass 0;bars if 1=2"), 1);
        due("of a far one", slips("slip 100" + ";slip 0 if 1=2".repeat(16)), 1);
        due("bars ahead of one that does not hold", barsHold("bars if 1=1;bars if 1=2"), 1);
        due("bars behind one that does not hold", barsHold("bars if 1=2;bars if 1=1"), 1);
        due("bars none", barsHold("bars if 1=2;bars if 1=2"), 0);
    }

    private static int slips(String laws) {
        return under(laws).show(0);
    }

    private static int barsHold(String laws) {
        return 1 - under(laws).holds(0, 0, 1);
    }

    private static ClothPlay under(String laws) {
        ClothPlay p = with(1);
        play(p, "beat 0 0 at 0,0 deep 1;" + laws);
        due("no fault in '" + laws + "'", p.fault(), NONE);
        return p;
    }
}
