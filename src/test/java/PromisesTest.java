/** For each promise of the document: ordinary inputs, its edges, wrong inputs. */
public final class PromisesTest extends Props {
    private static int wrong = 0;
    private static int checks = 0;
    private static int promise = 0;

    public static void main(String[] args) {
        newObject();
        figure();
        sticks();
        terms();
        on();
        off();
        of();
        feed();
        end();
        row();
        torn();
        outline();
        play();
        fault();
        laws();
        shadow();
        seen();
        common();
        holds();
        holdings();
        least();
        holder();
        passed();
        fewest();
        barred();
        made();
        who();
        sheet();
        copy();
        show();
        slipped();
        image();
        back();
        count();
        status();
        System.out.println(wrong == 0 ? checks + " answers as due" : wrong + " of " + checks + " answers not as due");
        System.exit(wrong == 0 ? 0 : 1);
    }

    private static void due(String what, int got, int want) {
        checks++;
        if (got != want) {
            wrong++;
            System.out.println("promise " + promise + ": " + what + " answered " + got + ", due is " + want);
        }
    }

    private static int faultOf(String text) {
        ClothPlay p = new ClothPlay();
        int answer = play(p, text);
        due("play of '" + text + "'", answer < 0 ? -6 : 0, answer < 0 ? answer : 0);
        return p.fault();
    }

    // ---- the promises

    private static void newObject() {
        promise = 1;
        ClothPlay p = new ClothPlay();
        for (int what = 0; what <= 11; what++) {
            due("count " + what, p.count(what), 0);
        }
        for (int r = 0; r < 16; r++) {
            due("sheet " + r, p.sheet(r), 0);
        }
        int[] first = {8, 1, 3, 0, 0, 8, 8};
        for (int what = 0; what < 7; what++) {
            due("terms " + what, p.terms(what, what == 0 ? 2 : 0), first[what]);
        }
        due("fault", p.fault(), -1);
        due("torn", p.torn(), 0);
        due("status", p.status(), 0);
        due("slipped", p.slipped(0), -1);
        due("none", ClothPlay.NONE, -1);
    }

    private static void figure() {
        promise = 2;
        ClothPlay p = new ClothPlay();
        due("figure 0", p.figure(0), -1);
        due("figure 3", p.figure(3), -1);
        for (int k = 0; k < 6; k++) {
            due("figure", p.figure(1 + k % 2), k);
        }
        due("a seventh", p.figure(1), -5);
        due("a wrong seventh", p.figure(0), -1);
        due("sticks as told", p.sticks(1, 1), 2);
        due("no outline", p.outline(5, 0), 0);
        due("off", p.of(5, 0, 0), 0);
    }

    private static void sticks() {
        promise = 3;
        ClothPlay p = with(1);
        due("to 2", p.sticks(0, 2), 1);
        due("to 1", p.sticks(0, 1), 2);
        due("0", p.sticks(0, 0), -1);
        due("3 of none", p.sticks(4, 3), -1);
        due("of none", p.sticks(1, 1), -2);
        due("of -1", p.sticks(-1, 1), -2);
        due("of 6", p.sticks(6, 1), -2);
        due("still", p.sticks(0, 1), 1);
    }

    private static void terms() {
        promise = 4;
        int[] low = {2, 0, 0, 0, 0, 0, 0};
        int[] high = {32, 16, 3, 1, 6, 31, 31};
        int[] was = {8, 1, 3, 0, 0, 8, 8};
        ClothPlay p = new ClothPlay();
        for (int what = 0; what < 7; what++) {
            due("below", p.terms(what, low[what] - 1), -1);
            due("beyond", p.terms(what, high[what] + 1), -1);
            due("highest", p.terms(what, high[what]), was[what]);
            due("lowest", p.terms(what, low[what]), high[what]);
            due("lowest again", p.terms(what, low[what]), low[what]);
        }
        due("what -1", p.terms(-1, 3), -1);
        due("what 7", p.terms(7, 3), -1);
    }

    private static void on() {
        promise = 5;
        ClothPlay p = with(1);
        due("on", p.on(0, 11, 31, 15, 32), 0);
        due("x", p.of(0, 11, 1), 31);
        due("y", p.of(0, 11, 2), 15);
        due("deep counts as the lamp", p.of(0, 11, 3), 8);
        due("elsewhere off", p.of(0, 10, 0), 0);
        due("beat -1", p.on(0, -1, 0, 0, 1), -1);
        due("beat 12", p.on(0, 12, 0, 0, 1), -1);
        due("x -1", p.on(0, 0, -1, 0, 1), -1);
        due("x 32", p.on(0, 0, 32, 0, 1), -1);
        due("y -1", p.on(0, 0, 0, -1, 1), -1);
        due("y 16", p.on(0, 0, 0, 16, 1), -1);
        due("deep 0", p.on(0, 0, 0, 0, 0), -1);
        due("deep 33 of none", p.on(9, 0, 0, 0, 33), -1);
        due("no such", p.on(1, 0, 0, 0, 1), -2);
        due("no such -1", p.on(-1, 0, 0, 0, 1), -2);
        due("nothing came of these", p.count(2), 1);
    }

    private static void off() {
        promise = 6;
        ClothPlay p = with(1);
        p.on(0, 3, 1, 1, 1);
        due("was on", p.off(0, 3), 1);
        due("was off", p.off(0, 3), 0);
        due("is off", p.of(0, 3, 0), 0);
        due("beat 12 of none", p.off(5, 12), -1);
        due("beat -1", p.off(0, -1), -1);
        due("no such", p.off(1, 3), -2);
    }

    private static void of() {
        promise = 7;
        ClothPlay p = with(1);
        p.on(0, 2, 7, 5, 20);
        due("on", p.of(0, 2, 0), 1);
        due("x", p.of(0, 2, 1), 7);
        due("y", p.of(0, 2, 2), 5);
        due("deep", p.of(0, 2, 3), 8);
        p.terms(0, 32);
        due("deep as told, the lamp being far", p.of(0, 2, 3), 20);
        p.terms(0, 4);
        due("deep by a near lamp", p.of(0, 2, 3), 4);
        due("off", p.of(0, 1, 0), 0);
        due("x off", p.of(0, 1, 1), -1);
        due("deep off", p.of(0, 1, 3), -1);
        due("what -1", p.of(0, 2, -1), -1);
        due("what 4", p.of(0, 2, 4), -1);
        due("no such", p.of(1, 2, 0), -1);
        due("no such -1", p.of(-1, 2, 0), -1);
        due("beat 12", p.of(0, 12, 0), -1);
        due("beat -1", p.of(0, -1, 0), -1);
    }

    private static void feed() {
        promise = 8;
        ClothPlay p = with(1);
        due("twenty", p.feed(0x01020304, 0x85060708, 0, 0, -1), 20);
        p.row(0);
        int[] rows = {1, 2, 3, 4, 0x85, 6, 7, 8};
        for (int j = 0; j < 8; j++) {
            due("row " + j, p.outline(0, j), rows[j]);
        }
        for (int k = 1; k <= 20; k++) {
            due("feed " + k, p.feed(k, k, k, k, k), 20 * k);
        }
        due("beyond 400", p.feed(1, 1, 1, 1, 1), -1);
        due("400 stay", p.count(6), 400);
        due("381", p.end(381), 381);
        due("401 would be", p.feed(1, 1, 1, 1, 1), -1);
        due("380", p.end(380), 380);
        due("400 again", p.feed(1, 1, 1, 1, 1), 400);
        due("none of it refused", p.count(7), 0);
    }

    private static void end() {
        promise = 9;
        ClothPlay p = new ClothPlay();
        due("0 of none", p.end(0), 0);
        due("1 of none", p.end(1), -1);
        p.feed(0, 0, 0, 0, 0);
        due("21", p.end(21), -1);
        due("-1", p.end(-1), -1);
        due("20", p.end(20), 20);
        due("7", p.end(7), 7);
        due("8", p.end(8), -1);
        due("bytes", p.count(6), 7);
        due("behind", p.feed(0, 0, 0, 0, 0), 27);
        due("no refusal", p.status(), 0);
    }

    private static void row() {
        promise = 10;
        ClothPlay p = with(1);
        due("empty", p.row(0), -6);
        due("empty sheet", p.row(-1), -6);
        due("empty, no such", p.row(1), -2);
        bytes(p, 255, 1);
        due("no such", p.row(1), -2);
        due("no such -2", p.row(-2), -2);
        due("the tape stays", p.count(6), 2);
        due("cells", p.row(0), 9);
        due("the tape is empty", p.count(6), 0);
        due("row 0", p.outline(0, 0), 255);
        due("row 1", p.outline(0, 1), 1);
        bytes(p, 0, 0, 4);
        due("anew", p.row(0), 1);
        due("row 0 is gone", p.outline(0, 0), 0);
        due("row 2", p.outline(0, 2), 4);
        bytes(p, 0x80, 0, 0, 1, 0, 0, 0, 6, 9);
        due("sheet", p.row(-1), 4);
        due("highest first", p.sheet(0), 0x80000001);
        due("second", p.sheet(1), 6);
        due("third breaks off", p.sheet(2), 0);
        told(p, 0, 1);
        due("the sheet anew", p.sheet(0), 0);
        due("its cells", p.count(5), 1);
        bytes(p, 7, 7, 7);
        due("no whole row", p.row(-1), 0);
        due("nothing", p.sheet(0), 0);
    }

    private static void torn() {
        promise = 11;
        ClothPlay p = with(1);
        bytes(p, 1, 2, 3, 4, 5, 6, 7, 8, 9, 10, 11);
        p.row(0);
        due("outline", p.torn(), 3);
        p.row(5);
        p.row(0);
        due("refused ones leave it", p.torn(), 3);
        bytes(p, new int[67]);
        p.row(-1);
        due("sheet beyond", p.torn(), 3);
        bytes(p, new int[63]);
        p.row(-1);
        due("sheet row that breaks off", p.torn(), 3);
        bytes(p, new int[64]);
        p.row(-1);
        due("just full", p.torn(), 0);
        bytes(p, new int[400]);
        p.row(0);
        due("much", p.torn(), 392);
        bytes(p, 1);
        p.row(0);
        due("none", p.torn(), 0);
    }

    private static void outline() {
        promise = 12;
        ClothPlay p = with(1, 1);
        outline(p, 1, 0, 0, 0, 0, 0, 0, 0, 0x81);
        due("last", p.outline(1, 7), 0x81);
        due("first", p.outline(1, 0), 0);
        due("other", p.outline(0, 7), 0);
        due("8", p.outline(1, 8), -1);
        due("-1", p.outline(1, -1), -1);
        due("no such", p.outline(2, 0), -1);
        due("none", p.outline(-1, 0), -1);
    }

    private static void play() {
        promise = 13;
        ClothPlay p = with(1, 1);
        p.on(1, 5, 3, 3, 3);
        due("clauses", play(p, "beat 0 to 2 0 at 31 , 15 deep 32;beat 1 0 off ; slip 3"), 3);
        due("all off ahead", p.of(1, 5, 0), 0);
        due("told", p.of(0, 0, 1), 31);
        due("told off", p.of(0, 1, 0), 0);
        due("told to", p.of(0, 2, 2), 15);
        due("beyond", p.of(0, 3, 0), 0);
        due("the tape is empty", p.count(6), 0);
        due("refused", play(p, "beat 0 1 at 0,0 deep 1;beat"), -6);
        due("the one before stays", p.count(1), 3);
        due("its places too", p.of(0, 0, 0), 1);
        due("nothing told", p.of(1, 0, 0), 0);
        due("the tape is empty again", p.count(6), 0);
        due("blanks", play(p, "     "), -6);
        due("fault at the end", p.fault(), 5);
        due("one blankless", play(p, "beat0to11 1at0,0deep1;bars if not x<1"), 2);
        due("to 11", p.of(1, 11, 0), 1);
        due("24", play(p, "bars;".repeat(23) + "bars"), 24);
        due("25", play(p, "bars;".repeat(24) + "bars"), -6);
        due("fault at the 25th", p.fault(), 120);
        due("a figure to come", play(p, "beat 0 5 at 1,1 deep 1"), 1);
        due("it is not there", p.of(5, 0, 0), -1);
        due("nor counted", p.count(2), 0);
        for (int k = 0; k < 4; k++) {
            p.figure(1);
        }
        due("now it is", p.of(5, 0, 0), 1);
        due("full tape", play(p, "pass 1" + " ".repeat(394)), 1);
    }

    private static void fault() {
        promise = 14;
        due("none", faultOf("pass 1"), -1);
        due("empty", faultOf(""), 0);
        due("first", faultOf("  Beat 1"), 2);
        due("longest letters", faultOf("beatx 1"), 0);
        due("z is a letter", faultOf("beatz 1"), 0);
        due("a is a letter", faultOf("abeat 1"), 0);
        due("beat 12", faultOf("beat 12 0 off"), 5);
        due("second beat", faultOf("beat 4 to 3 0 off"), 10);
        due("second beat beyond", faultOf("beat 4 to 12 0 off"), 10);
        due("beat 11", faultOf("beat 11 0 off"), -1);
        due("second beat alike", faultOf("beat 4 to 4 0 off"), -1);
        due("figure 6", faultOf("beat 4 6 off"), 7);
        due("x", faultOf("beat 4 5 at 32,0 deep 1"), 12);
        due("y", faultOf("beat 4 5 at 31,16 deep 1"), 15);
        due("deep 0", faultOf("beat 4 5 at 31,15 deep 0"), 23);
        due("deep 33", faultOf("beat 4 5 at 31,15 deep 33"), 23);
        due("deep 32", faultOf("beat 4 5 at 31,15 deep 32"), -1);
        due("zeros ahead", faultOf("beat 0004 0005 off"), -1);
        due("long digits", faultOf("beat 99999999999999999999 0 off"), 5);
        due("number 1000", faultOf("pass 1000"), -1);
        due("number 1001", faultOf("pass 1001"), 5);
        due("behind a clause", faultOf("pass 1 2"), 7);
        due("the end", faultOf("pass 1;  "), 9);
        due("round bracket in a sum", faultOf("pass (1)"), 5);
        due("square bracket of a test", faultOf("bars if [x<1]"), 10);
        due("sum alone", faultOf("bars if (x) < 1"), 10);
        due("two comparisons", faultOf("bars if x<1<2"), 11);
        due("bars with a sum", faultOf("bars 1"), 5);
        due("other byte", faultOf("pass 1\n"), 6);
        due("8 brackets", faultOf("pass [[[[[[[[1]]]]]]]]"), -1);
        due("9 brackets", faultOf("pass [[[[[[[[[1]]]]]]]]]"), 13);
        due("both kinds", faultOf("bars if ((((([[[1]]]<2)))))"), -1);
        due("9 of both kinds", faultOf("bars if ((((([[[[1]]]]<2)))))"), 16);
        due("beside one another", faultOf("bars if ((((([[[1]]]<[[[2]]])))))"), -1);
        due("50 parts", faultOf("pass 1" + "+1".repeat(49)), -1);
        due("51 parts", faultOf("pass 1" + "+1".repeat(50)), 105);
        due("51 parts over clauses", faultOf("pass x;".repeat(23) + "pass 1" + "+y".repeat(27)), 23 * 7 + 59);
        due("places are no parts", faultOf("beat 0 0 at 0,0 deep 1;".repeat(3) + "pass 1" + "+1".repeat(49)), -1);
        due("many nots", faultOf("bars if " + "not ".repeat(90) + "1=1"), -1);
        ClothPlay p = new ClothPlay();
        due("ahead of any", p.fault(), -1);
        play(p, "x");
        due("a fault", p.fault(), 0);
        play(p, "bars");
        due("gone", p.fault(), -1);
    }

    /** A FIGURE at x 6, y 4, deep 3 of the lamp's 8; the SUM is what "slip" tells by seeds that are sure to be below. */
    private static boolean so(String test) {
        ClothPlay p = with(2);
        play(p, "beat 2 0 at 6,4 deep 3;slip 100 if " + test);
        return p.show(0) == 1;
    }

    private static void tell(String test, boolean want) {
        due(test, so(test) ? 1 : 0, want ? 1 : 0);
    }

    private static void laws() {
        promise = 13;
        tell("figure=0 and beat=2 and helper=0 and other=0-1 and x=6 and y=4 and deep=3 and sticks=2", true);
        tell("1+2*3=7", true);
        tell("[1+2]*3=9", true);
        tell("10-3-2=5", true);
        tell("7/2*2=6", true);
        tell("[0-7]/2=0-3", true);
        tell("1<2", true);
        tell("2<2", false);
        tell("3>2", true);
        tell("not 3>2", false);
        tell("not not 3>2", true);
        tell("1=1 or 1=2 and 1=2", true);
        tell("(1=1 or 1=2) and 1=2", false);
        tell("not 1=2 and 1=1", true);
        tell("not (1=1 and 1=2)", true);
        tell("1/0=1", false);
        tell("not 1/0=1", false);
        tell("1=1 or 1/0=1", true);
        tell("1/0=1 or 1=1", false);
        tell("1=2 and 1/0=1 or 1=1", true);
        tell("1000*1000*1000>0", true);
        tell("1000*1000*1000+1>0", false);
        tell("1000*1000*1000*2/2>0", false);
        tell("0-1000*1000*1000<0", true);
        tell("0-1000*1000*1000-1<0", false);
        ClothPlay p = with(1);
        play(p, "beat 0 0 at 0,0 deep 32;slip 100;slip 0 if x=1;slip 1/0");
        due("the last that holds", p.show(0), 1);
        play(p, "beat 0 0 at 0,0 deep 32;slip 100;slip 0-5");
        due("the nearest", p.show(0), 0);
        play(p, "beat 0 0 at 0,0 deep 32;slip 1000 if deep = 8");
        due("deep as it counts", p.show(0), 1);
    }

    private static void shadow() {
        promise = 15;
        ClothPlay p = with(1, 1);
        outline(p, 0, 0x81, 0, 0, 0, 0, 0, 0, 0xff);
        p.on(0, 0, 2, 3, 8);
        due("as it is at the sheet", p.shadow(0, 0, 3), 0x81 << 2);
        due("empty row", p.shadow(0, 0, 4), 0);
        due("last row", p.shadow(0, 0, 10), 0xff << 2);
        p.on(0, 0, 0, 0, 4);
        due("twice as wide", p.shadow(0, 0, 0), 0xc003);
        due("twice as high", p.shadow(0, 0, 1), 0xc003);
        due("and no more", p.shadow(0, 0, 2), 0);
        due("bit 31", shadowOf(31, 15, 8, 15), 0x80000000);
        p.on(0, 0, 1, 0, 3);
        // (2c + 1) * 3 / 16 is 1 for c 3 .. 4 and 8 for c 21 .. 23.
        due("uneven", p.shadow(0, 0, 0), 0b111 << 21 | 0b111 << 3 & ~(1 << 5));
        outline(p, 1, 1);
        p.on(1, 0, 0, 15, 9);
        p.terms(0, 8);
        due("all of them", p.shadow(-1, 0, 15), 1);
        due("row 16", p.shadow(0, 0, 16), 0);
        due("row 16 behind row 15", shadowOf(0, 15, 8, 16), 0);
        due("row -1", p.shadow(0, 0, -1), 0);
        due("beat 12", p.shadow(-1, 12, 0), 0);
        due("beat -1", p.shadow(-1, -1, 0), 0);
        due("off", p.shadow(0, 1, 0), 0);
        due("none such", p.shadow(2, 0, 0), 0);
        due("-2", p.shadow(-2, 0, 0), 0);
    }

    private static int shadowOf(int x, int y, int deep, int row) {
        ClothPlay p = with(1);
        outline(p, 0, 255, 255, 255, 255, 255, 255, 255, 255);
        p.on(0, 0, x, y, deep);
        return p.shadow(0, 0, row);
    }

    private static void seen() {
        promise = 16;
        ClothPlay p = with(1, 1, 1);
        outline(p, 0, 3, 3);
        outline(p, 1, 3, 3);
        outline(p, 2, 1);
        p.on(0, 0, 0, 0, 8);
        p.on(1, 0, 1, 0, 20);
        due("cells", p.seen(0, 0, 0), 4);
        due("a lower one is not hidden", p.seen(0, 0, 1), 0);
        due("a higher one is", p.seen(1, 0, 1), 2);
        p.on(0, 0, 0, 0, 4);
        due("larger", p.seen(0, 0, 0), 16);
        due("less deep hides", p.seen(1, 0, 1), 4);
        p.on(0, 0, 0, 0, 8);
        p.on(1, 0, 0, 0, 4);
        due("less deep hides a lower one", p.seen(0, 0, 1), 4);
        due("but not this", p.seen(1, 0, 1), 0);
        p.terms(1, 3);
        p.on(2, 0, 31, 15, 3);
        due("blur cut", p.seen(2, 0, 2), 500);
        p.terms(1, 1);
        due("blur in hundredths", p.seen(2, 0, 2), 166);
        due("blur on the sheet", p.seen(0, 0, 2), 0);
        due("beyond the sheet", p.seen(2, 0, 0), 0);
        due("off", p.seen(0, 1, 0), -1);
        due("what 3", p.seen(0, 0, 3), -1);
        due("what -1", p.seen(0, 0, -1), -1);
        due("no such", p.seen(3, 0, 0), -1);
        due("beat 12", p.seen(0, 12, 0), -1);
        p.terms(1, 16);
        p.terms(0, 32);
        p.on(2, 0, 0, 0, 1);
        due("widest blur", p.seen(2, 0, 2), 49600);
    }

    private static void common() {
        promise = 17;
        ClothPlay p = with(1, 1);
        outline(p, 0, 7, 7, 7);
        outline(p, 1, 7, 7, 7);
        p.on(0, 4, 0, 0, 8);
        p.on(1, 4, 1, 2, 8);
        due("common", p.common(0, 1, 4), 2);
        due("turned", p.common(1, 0, 4), 2);
        due("with itself", p.common(1, 1, 4), 9);
        due("off", p.common(0, 1, 3), -1);
        p.off(1, 4);
        due("one off", p.common(0, 1, 4), -1);
        due("no such", p.common(0, 2, 4), -1);
        due("beat 12", p.common(0, 0, 12), -1);
    }

    private static void holds() {
        promise = 18;
        ClothPlay p = with(1, 1, 1, 2, 2);
        for (int f = 0; f < 5; f++) {
            p.on(f, 0, 2 * f, 0, 1 + f);
        }
        due("none", p.holds(0, 0, 0), 1);
        due("one", p.holds(0, 0, 1), 1);
        due("two", p.holds(1, 0, 3), 1);
        due("three", p.holds(2, 0, 7), 0);
        due("two sticks", p.holds(0, 0, 8), 1);
        due("two sticks and one", p.holds(0, 0, 12), 0);
        due("two of two", p.holds(0, 0, 24), 0);
        p.terms(3, 1);
        due("three with teeth", p.holds(2, 0, 7), 1);
        due("two sticks and one with teeth", p.holds(0, 0, 12), 1);
        due("two sticks and two with teeth", p.holds(0, 0, 14), 0);
        due("two of two with teeth", p.holds(0, 0, 24), 0);
        p.terms(5, 4);
        due("reach", p.holds(0, 0, 7), 1);
        p.terms(5, 3);
        due("beyond reach", p.holds(0, 0, 7), 0);
        p.terms(5, 31);
        p.terms(6, 2);
        due("arm", p.holds(0, 0, 7), 1);
        p.terms(6, 1);
        due("beyond arm", p.holds(0, 0, 7), 0);
        p.terms(0, 2);
        due("arm as deep counts", p.holds(0, 0, 7), 1);
        due("no hooks", p.holds(3, 0, 1), 0);
        due("no hooks, none", p.holds(3, 0, 0), 1);
        p.terms(4, 2);
        due("hooks at first", p.holds(3, 0, 24), 1);
        due("three on two hooks", p.holds(3, 0, 7), 0);
        p.on(0, 1, 0, 0, 1);
        p.on(1, 1, 2, 1, 2);
        p.on(2, 1, 4, 0, 9);
        due("hooks where it was", p.holds(3, 1, 1), 1);
        due("hooks elsewhere", p.holds(3, 1, 2), 0);
        due("deep as told", p.holds(3, 1, 4), 0);
        p.on(0, 3, 0, 0, 1);
        due("hooks, off ahead", p.holds(3, 3, 1), 0);
        p.terms(2, 0);
        due("helpers not asked", p.holds(2, 1, 1), 1);
        due("helper 4", p.holds(4, 0, 1), -1);
        due("helper -1", p.holds(-1, 0, 1), -1);
        due("beat 12", p.holds(0, 12, 0), -1);
        due("beat -1", p.holds(0, -1, 0), -1);
        due("off", p.holds(0, 1, 9), -1);
        due("not there", p.holds(0, 0, 32), -1);
        due("beyond bits", p.holds(0, 0, 64), -1);
        due("below 0", p.holds(0, 0, -1), -1);
        play(p, "beat 0 0 at 0,0 deep 1;beat 0 1 at 0,0 deep 1;bars if helper = 1 and figure = 1;bars if helper = 3");
        due("not barred", p.holds(0, 0, 3), 1);
        due("barred", p.holds(1, 0, 3), 0);
        due("the other is not", p.holds(1, 0, 1), 1);
        due("hooks barred", p.holds(3, 0, 1), 0);
    }

    private static void holdings() {
        promise = 19;
        ClothPlay p = with(1, 1, 2);
        due("nobody on", p.holdings(0), 1);
        p.on(0, 0, 0, 0, 1);
        p.on(1, 0, 0, 0, 1);
        due("two", p.holdings(0), 9);
        p.on(2, 0, 0, 0, 1);
        due("with two sticks", p.holdings(0), 12);
        p.terms(4, 1);
        due("with a hook", p.holdings(0), 12 + 6 + 6 + 9);
        p.terms(2, 0);
        due("a hook alone", p.holdings(0), 0);
        p.terms(4, 3);
        due("hooks alone", p.holdings(0), 1);
        due("beat 12", p.holdings(12), -1);
        due("beat -1", p.holdings(-1), -1);
        due("beat 11", p.holdings(11), 1);
    }

    /** A FIGURE that helper 0 can't hold on beat 1 nor helper 1 on beat 2. */
    private static ClothPlay driven(String laws) {
        ClothPlay p = with(1);
        play(p, "beat 0 to 2 0 at 0,0 deep 1;bars if helper = beat - 1" + laws);
        p.terms(2, 2);
        return p;
    }

    private static void least() {
        promise = 20;
        ClothPlay p = driven("");
        due("passed once", p.least(0), 1);
        due("ways", p.least(1), 1);
        p = driven(";pass 20");
        due("9 at most", p.least(0), 9);
        p = driven(";pass 0-3");
        due("0 at least", p.least(0), 0);
        due("ways at 0", p.least(1), 2);
        p = driven(";pass 5 if beat = 2 and helper = 1 and other = 0;pass 7 if beat = 1");
        due("the second beat, who had it, to whom", p.least(0), 5);
        due("what 2", p.least(2), -1);
        due("what -1", p.least(-1), -1);
        p.terms(2, 1);
        due("none", p.least(0), -1);
        due("no ways", p.least(1), 0);
        p = with(1, 1, 1, 1, 1, 1);
        p.terms(3, 1);
        p.terms(5, 31);
        for (int b = 0; b < 12; b += 2) {
            for (int f = 0; f < 6; f++) {
                p.on(f, b, 0, 0, 1);
            }
        }
        due("never two behind one another", p.least(0), 0);
        due("no more than", p.least(1), 1000000000);
        p = with(1);
        p.on(0, 0, 0, 0, 1);
        p.on(0, 2, 0, 0, 1);
        due("off between is no passing", p.least(1), 9);
        p = with(1, 1, 1, 1, 1, 1);
        p.terms(3, 1);
        p.terms(4, 6);
        for (int b = 0; b < 12; b++) {
            for (int f = 0; f < 6; f++) {
                p.on(f, b, 0, 0, 1);
            }
        }
        // Of 4 holders for each of 6, those in which a helper has more than three can't be.
        due("six with all holders, each staying", p.least(1), 4096 - 3 * (15 * 9 + 6 * 3 + 1));
        p = new ClothPlay();
        play(p, "beat 0 0 at 0,0 deep 1");
        due("not there yet", p.least(1), 1);
        p.figure(1);
        due("there now", p.least(1), 3);
    }

    private static void holder() {
        promise = 21;
        ClothPlay p = driven("");
        due("beat 0", p.holder(0, 0), 1);
        due("beat 1", p.holder(0, 1), 1);
        due("beat 2", p.holder(0, 2), 0);
        due("off", p.holder(0, 3), -1);
        due("no such", p.holder(1, 0), -1);
        due("beat 12", p.holder(0, 12), -1);
        due("beat -1", p.holder(0, -1), -1);
        p.terms(4, 1);
        due("a hook spares the passing", p.holder(0, 2), 3);
        p.terms(2, 1);
        due("hooks alone", p.holder(0, 0), 3);
        p.terms(4, 0);
        due("none", p.holder(0, 0), -1);
        p = with(1, 1, 1);
        for (int f = 0; f < 3; f++) {
            p.on(f, 0, 0, 0, 1);
        }
        due("first of the first", p.holder(0, 0), 0);
        due("second of the first", p.holder(1, 0), 0);
        due("third of the first", p.holder(2, 0), 1);
        p = with(1, 1, 1, 1, 1, 1);
        for (int f = 0; f < 6; f++) {
            p.on(f, 11, 0, 0, 1);
        }
        for (int f = 0; f < 6; f++) {
            due("six, " + f, p.holder(f, 11), f / 2);
        }
    }

    private static void passed() {
        promise = 22;
        ClothPlay p = driven("");
        due("once", p.passed(0), 1);
        p = driven(";pass 0");
        due("whatever it costs", p.passed(0), 2);
        due("no such", p.passed(1), -1);
        due("-1", p.passed(-1), -1);
        p.figure(1);
        due("never on", p.passed(1), 0);
        p.terms(2, 1);
        due("none", p.passed(0), -1);
    }

    private static void fewest() {
        promise = 23;
        ClothPlay p = with(2, 2, 2, 2);
        due("nobody on", p.fewest(), 0);
        for (int f = 0; f < 4; f++) {
            due("with " + f, p.fewest(), f);
            p.on(f, f, 0, 0, 1);
            for (int g = 0; g < f; g++) {
                p.on(g, f, 0, 0, 1);
            }
        }
        due("with 4", p.fewest(), -1);
        p.terms(2, 0);
        due("helpers do not count", p.fewest(), -1);
        p.terms(4, 1);
        due("a hook", p.fewest(), 3);
    }

    private static void barred() {
        promise = 24;
        ClothPlay p = with(1, 1, 2, 1);
        due("none", p.barred(0), -1);
        due("no core", p.barred(1), -1);
        p.terms(2, 1);
        for (int f = 0; f < 4; f++) {
            p.on(f, 3, 0, 0, 1);
            p.on(f, 5, 0, 0, 1);
        }
        due("first beat", p.barred(0), 3);
        due("core", p.barred(1), 12);
        p.off(2, 3);
        due("core of three", p.barred(1), 11);
        p.off(0, 3);
        due("next beat", p.barred(0), 5);
        due("what 2", p.barred(2), -1);
        due("what -1", p.barred(-1), -1);
        play(p, "beat 1 to 2 1 at 0,0 deep 1;beat 1 0 at 0,0 deep 1;bars if figure = 1 and beat = 1");
        due("one alone", p.barred(1), 2);
    }

    private static void made() {
        promise = 25;
        ClothPlay p = with(1, 1, 1, 1);
        due("empty", p.made(0, 0), 1);
        due("empty, cast", p.made(15, 0), 1);
        due("empty, fewest", p.made(15, 1), 0);
        // By this lamp a cell lights either one CELL or four.
        p.terms(0, 2);
        told(p, 0b111);
        due("no outlines", p.made(15, 0), 0);
        due("no fewest", p.made(15, 1), -1);
        outline(p, 0, 1);
        outline(p, 1, 1);
        outline(p, 2, 1);
        outline(p, 3, 0b111);
        due("one", p.made(8, 0), 1);
        due("one is the fewest", p.made(15, 1), 1);
        due("three of one cell", p.made(7, 1), 3);
        due("their orders", p.made(7, 0), 6);
        due("none with two", p.made(3, 0), 0);
        due("cast of none", p.made(0, 0), 0);
        p.terms(0, 8);
        due("two of one cell: the lamp at 8 widens one", p.made(7, 1), 2);
        p.terms(0, 2);
        due("not there", p.made(16, 0), -1);
        due("below 0", p.made(-1, 0), -1);
        due("what 2", p.made(1, 2), -1);
        due("what -1", p.made(1, -1), -1);
        outline(p, 1, 0b11);
        due("overlapping ones have cells of their own", p.made(3, 0), 2);
        told(p, -1, -1);
        due("64 cells", p.made(15, 0), 0);
        told(p, -1, -1, 1);
        due("65 cells", p.made(15, 0), -1);
        due("65 cells, fewest", p.made(15, 1), -1);
        told(p, 3, 3);
        outline(p, 0, 1);
        due("lamp 2: twice as large", p.made(1, 0), 1);
        p.terms(0, 32);
        told(p, 15, 15, 15, 15);
        due("lamp 32, deep 8", p.made(1, 0), 1);
        told(p, 3, 3);
        due("not so deep", p.made(1, 0), 0);
    }

    private static void who() {
        promise = 26;
        ClothPlay p = with(1, 1, 1);
        due("empty: not in it", p.who(7, 0, 0), 0);
        due("empty: no x", p.who(7, 0, 1), -1);
        outline(p, 0, 1);
        outline(p, 1, 1);
        outline(p, 2, 3);
        told(p, 0, 0b11 << 5);
        due("one is enough", p.who(7, 2, 0), 1);
        due("others are not in it", p.who(7, 0, 0), 0);
        due("nor anywhere", p.who(7, 0, 3), -1);
        due("first by deep", p.who(7, 2, 3), 7);
        due("x", p.who(7, 2, 1), 4);
        due("y", p.who(7, 2, 2), 1);
        due("two", p.who(3, 0, 0), 1);
        due("the lower one ahead", p.who(3, 0, 3) * 32 + p.who(3, 0, 1), firstCell(5));
        due("then the other", p.who(3, 1, 3) * 32 + p.who(3, 1, 1), firstCell(6));
        due("not of the cast", p.who(3, 2, 0), 0);
        due("not of the cast, x", p.who(3, 2, 1), -1);
        due("no such", p.who(3, 3, 0), -1);
        due("-1", p.who(3, -1, 0), -1);
        due("what 4", p.who(3, 0, 4), -1);
        due("what -1", p.who(3, 0, -1), -1);
        due("cast beyond", p.who(8, 0, 0), -1);
        due("no way", p.who(1, 0, 0), -1);
        told(p, -1, -1, 1);
        due("65 cells", p.who(7, 0, 0), -1);
        // A bar of seven with holes at 2 and 5, one cell, and a bar of three that may lie over the other hole in two ways.
        p.terms(0, 2);
        told(p, 0x7f);
        outline(p, 0, 0x5b);
        outline(p, 1, 1);
        outline(p, 2, 7);
        due("ways", p.made(7, 0), 5);
        due("three", p.made(7, 1), 3);
        due("first of the first", p.who(7, 0, 1), 0);
        due("first of the second", p.who(7, 1, 1), 2);
        due("first of the third", p.who(7, 2, 1), 3);
    }

    /** DEEP and X of the first place from which one cell lights a column of row 1 alone, by the lamp at 8. */
    private static int firstCell(int column) {
        for (int deep = 1; deep <= 8; deep++) {
            int rows = 0;
            for (int r = 0; r < 16; r++) {
                rows += (2 * r + 1) * deep / 16 == 3 * deep / 16 ? 1 : 0;
            }
            int columns = 0;
            for (int c = 0; c < 32; c++) {
                columns += (2 * c + 1) * deep / 16 == (2 * column + 1) * deep / 16 ? 1 : 0;
            }
            if (rows == 1 && columns == 1) {
                return deep * 32 + (2 * column + 1) * deep / 16;
            }
        }
        return -1;
    }

    private static void sheet() {
        promise = 27;
        ClothPlay p = new ClothPlay();
        int[] rows = new int[16];
        for (int r = 0; r < 16; r++) {
            rows[r] = -r * 0x01010101;
        }
        told(p, rows);
        for (int r = 0; r < 16; r++) {
            due("row " + r, p.sheet(r), rows[r]);
        }
        due("16", p.sheet(16), 0);
        due("-1", p.sheet(-1), 0);
    }

    private static void copy() {
        promise = 28;
        ClothPlay p = with(1, 1);
        outline(p, 0, 3);
        outline(p, 1, 6);
        p.on(0, 1, 0, 0, 8);
        p.on(1, 1, 0, 0, 8);
        due("all shadows", p.copy(1), 3);
        due("row 0", p.sheet(0), 7);
        due("12", p.copy(12), -1);
        due("-1", p.copy(-1), -1);
        due("stays", p.count(5), 3);
        due("nobody on", p.copy(0), 0);
        due("empty", p.sheet(0), 0);
    }

    private static void show() {
        promise = 29;
        ClothPlay p = with(1, 1);
        play(p, "beat 0 to 5 0 at 0,0 deep 1;beat 3 to 8 1 at 0,0 deep 1;slip 40 + 10 * figure");
        for (int seed : new int[] {0, 1, 77, 999999, 1000000}) {
            long s = seed;
            int slips = 0;
            int[] bits = new int[12];
            for (int b = 0; b < 12; b++) {
                for (int f = 0; f < 2; f++) {
                    if (f == 0 ? b <= 5 : b >= 3 && b <= 8) {
                        s = (s * 1103 + 12345) % 1000003;
                        if (s % 100 < 40 + 10 * f) {
                            slips++;
                            bits[b] |= 1 << f;
                        }
                    }
                }
            }
            due("slips of " + seed, p.show(seed), slips);
            for (int b = 0; b < 12; b++) {
                due("slipped " + b, p.slipped(b), bits[b]);
            }
        }
        due("-1", p.show(-1), -1);
        due("1000001", p.show(1000001), -1);
        p.terms(2, 0);
        due("no performance", p.show(3), -3);
        due("wrong seed, no performance", p.show(-3), -1);
        p.terms(2, 3);
        play(p, "beat 0 to 5 0 at 0,0 deep 1;bars if helper = 0;slip 100 if helper = 1 and other = 0 - 1");
        due("who holds it", p.show(3), 6);
        play(p, "beat 0 to 5 0 at 0,0 deep 1");
        due("without", p.show(3), 0);
    }

    private static void slipped() {
        promise = 30;
        ClothPlay p = with(1);
        due("no show", p.slipped(0), -1);
        play(p, "beat 4 0 at 0,0 deep 1;slip 100");
        p.show(1);
        due("beat 4", p.slipped(4), 1);
        due("beat 3", p.slipped(3), 0);
        due("beat 12", p.slipped(12), -1);
        due("beat -1", p.slipped(-1), -1);
        p.terms(2, 0);
        p.show(1);
        p.show(-1);
        due("refused ones leave it", p.slipped(4), 1);
        p.terms(2, 3);
        p.off(0, 4);
        p.show(1);
        due("the latest", p.slipped(4), 0);
    }

    private static void image() {
        promise = 31;
        ClothPlay p = new ClothPlay();
        due("0", p.image(0), 0);
        due("1", p.image(1), 0);
        due("2", p.image(2), -1);
        due("-1", p.image(-1), -1);
        p.figure(1);
        due("anew", p.image(1), 0);
        p.back(0);
        due("0 as it was", p.count(0), 0);
        p.back(1);
        due("1 as it is kept", p.count(0), 1);
    }

    private static void back() {
        promise = 32;
        ClothPlay p = with(1);
        due("not kept", p.back(0), -2);
        due("2", p.back(2), -1);
        due("-1", p.back(-1), -1);
        outline(p, 0, 3);
        play(p, "beat 0 0 at 4,5 deep 6;slip 100;bars if helper = 0");
        p.terms(0, 9);
        told(p, 5);
        p.show(1);
        p.image(0);
        int least = p.least(1);
        p.figure(2);
        p.sticks(0, 2);
        play(p, "beat 1 0 at 1,1 deep 1");
        p.terms(0, 10);
        told(p, 7, 7);
        outline(p, 0, 1, 1, 1, 1, 1, 1, 1, 1, 1);
        p.show(2);
        p.feed(0, 0, 0, 0, 0);
        play(p, "pass");
        p.feed(0, 0, 0, 0, 0);
        int torn = p.torn();
        due("something torn", torn, 1);
        due("back", p.back(0), 0);
        due("torn is not kept", p.torn(), torn);
        due("figures", p.count(0), 1);
        due("clauses", p.count(1), 3);
        due("outline", p.outline(0, 0), 3);
        due("outline row", p.outline(0, 1), 0);
        due("place", p.of(0, 0, 1), 4);
        due("off again", p.of(0, 1, 0), 0);
        due("lamp", p.terms(0, 9), 9);
        due("sticks", p.sticks(0, 1), 1);
        due("sheet", p.sheet(0), 5);
        due("sheet row", p.sheet(1), 0);
        due("law", p.least(1), least);
        due("holder by law", p.holder(0, 0), 1);
        p.terms(0, 2);
        told(p, 3);
        p.image(1);
        due("made", p.made(1, 0), 1);
        told(p, 1);
        due("not made", p.made(1, 0), 0);
        p.back(1);
        due("made again", p.made(1, 0), 1);
        p.back(0);
        p.feed(0, 0, 0, 0, 0);
        due("the tape is not kept", p.count(6), 20);
        due("fault is not kept", p.fault(), 4);
        due("the show is not kept", p.slipped(0), 0);
        p.figure(2);
        due("a new figure has no outline", p.outline(1, 0), 0);
        due("again", p.back(0), 0);
        due("images stay", p.count(0), 1);
    }

    private static void count() {
        promise = 33;
        ClothPlay p = with(1, 1, 1);
        play(p, "beat 0 to 3 0 at 0,0 deep 1;beat 2 to 5 1 at 0,0 deep 1;beat 3 2 at 0,0 deep 1;beat 4 5 at 1,1 deep 1");
        due("figures", p.count(0), 3);
        due("clauses", p.count(1), 4);
        due("on", p.count(2), 9);
        due("beats", p.count(3), 6);
        due("at once", p.count(4), 3);
        told(p, -1, 1);
        due("cells", p.count(5), 33);
        p.feed(0, 0, 0, 0, 0);
        due("bytes", p.count(6), 20);
        p.end(0);
        p.figure(3);
        p.terms(9, 9);
        p.sticks(5, 1);
        p.back(0);
        p.row(4);
        p.image(0);
        p.terms(2, 0);
        p.show(0);
        p.terms(2, 3);
        p.row(0);
        p.play();
        for (int k = 0; k < 7; k++) {
            p.figure(1);
        }
        p.of(9, 9, 9);
        p.end(-1);
        p.holdings(-1);
        p.back(0);
        int[] want = {2, 3, 1, 4, 2};
        for (int k = 0; k < 5; k++) {
            due("count " + (7 + k), p.count(7 + k), want[k]);
        }
        due("12", p.count(12), -1);
        due("-1", p.count(-1), -1);
    }

    private static void status() {
        promise = 34;
        ClothPlay p = new ClothPlay();
        due("ahead", p.status(), 0);
        p.figure(0);
        due("figure", p.status(), -1);
        p.feed(0, 0, 0, 0, 0);
        p.end(99);
        p.of(9, 9, 9);
        p.count(99);
        p.status();
        due("others leave it", p.status(), -1);
        p.figure(1);
        due("not refused", p.status(), 0);
        p.sticks(1, 1);
        due("sticks", p.status(), -2);
        p.terms(0, 0);
        due("terms", p.status(), -1);
        p.on(1, 0, 0, 0, 1);
        due("on", p.status(), -2);
        p.off(0, 12);
        due("off", p.status(), -1);
        p.off(0, 0);
        due("off fine", p.status(), 0);
        p.row(4);
        due("row", p.status(), -2);
        p.play();
        due("play", p.status(), -6);
        p.copy(12);
        due("copy", p.status(), -1);
        p.on(0, 0, 0, 0, 1);
        p.terms(2, 0);
        p.show(1);
        due("show", p.status(), -3);
        p.image(3);
        due("image", p.status(), -1);
        p.back(0);
        due("back", p.status(), -2);
        p.image(0);
        due("image fine", p.status(), 0);
        for (int k = 0; k < 6; k++) {
            p.figure(1);
        }
        due("no room", p.status(), -5);
        p.back(0);
        due("back fine", p.status(), 0);
    }
}
