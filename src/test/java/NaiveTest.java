import java.util.Random;

/** Random runs of calls on ClothPlay and on Naive; every answer must be the same. An argument sets how many runs. */
public final class NaiveTest {
    private static int wrong = 0;
    private final Random random;
    private final ClothPlay real = new ClothPlay();
    private final Naive naive = new Naive();
    private final StringBuilder told = new StringBuilder();
    private final int mostOn;

    private NaiveTest(long seed) {
        random = new Random(seed);
        mostOn = 1 + random.nextInt(random.nextInt(8) == 0 ? 5 : 3);
    }

    public static void main(String[] args) {
        int runs = args.length > 0 ? Integer.parseInt(args[0]) : 800;
        for (int k = 0; k < runs && wrong < 5; k++) {
            NaiveTest test = new NaiveTest(k);
            int before = wrong;
            test.run(k);
            if (wrong > before) {
                System.out.println("run with seed " + k + ":\n" + test.told);
            }
        }
        System.out.println(wrong == 0 ? runs + " runs alike" : wrong + " answers differ");
        System.exit(wrong == 0 ? 0 : 1);
    }

    private int upTo(int n) {
        return random.nextInt(n);
    }

    private boolean oneIn(int n) {
        return random.nextInt(n) == 0;
    }

    /** Mostly a number that can be, sometimes one beyond. */
    private int some(int low, int high) {
        if (oneIn(30)) {
            int[] odd = {low - 1, high + 1, -1, Integer.MIN_VALUE, Integer.MAX_VALUE, 1000};
            return odd[upTo(odd.length)];
        }
        return low + upTo(high - low + 1);
    }

    private void same(String call, int got, int due) {
        told.append("  ").append(call).append(" -> ").append(got).append('\n');
        if (got != due && wrong < 5) {
            wrong++;
            told.append("  ^ due is ").append(due).append('\n');
        }
    }

    private void run(int k) {
        int figures = 1 + upTo(6);
        for (int f = 0; f < figures; f++) {
            int sticks = some(1, 2);
            same("figure " + sticks, real.figure(sticks), naive.figure(sticks));
        }
        for (int f = 0; f < figures; f++) {
            if (!oneIn(6)) {
                giveOutline(f);
            }
        }
        if (k % 3 == 0) {
            crowdedHolding();
        } else if (k % 3 == 1) {
            crowdedSheet();
        } else {
            overlappingSheet();
        }
        int calls = 60 + upTo(60);
        for (int c = 0; c < calls; c++) {
            switch (k % 4) {
                case 0:
                    anything();
                    break;
                case 1:
                    if (oneIn(3)) {
                        text();
                    } else {
                        anything();
                    }
                    break;
                case 2:
                    if (oneIn(2)) {
                        holding();
                    } else {
                        anything();
                    }
                    break;
                default:
                    if (oneIn(4)) {
                        making();
                    } else {
                        anything();
                    }
            }
            same("status", real.status(), naive.status);
        }
    }

    private int f() {
        return some(0, 5);
    }

    private int b() {
        return oneIn(3) ? some(0, 11) : upTo(4);
    }

    private void feed(byte[] bytes) {
        for (int k = 0; k < bytes.length; k += 20) {
            int[] v = new int[5];
            for (int j = 0; j < 20; j++) {
                int one = k + j < bytes.length ? bytes[k + j] & 255 : upTo(256);
                v[j / 4] = v[j / 4] << 8 | one;
            }
            same("feed", real.feed(v[0], v[1], v[2], v[3], v[4]), naive.feed(v[0], v[1], v[2], v[3], v[4]));
        }
        same("end " + bytes.length, real.end(bytes.length), naive.end(bytes.length));
    }

    private void emptyTape() {
        same("end 0", real.end(0), naive.end(0));
    }

    private void giveOutline(int f) {
        emptyTape();
        int rows = 1 + upTo(oneIn(5) ? 10 : 3);
        byte[] bytes = new byte[rows];
        for (int k = 0; k < rows; k++) {
            bytes[k] = (byte) (oneIn(4) ? upTo(256) : upTo(8));
        }
        feed(bytes);
        same("row " + f, real.row(f), naive.row(f));
        same("torn", real.torn(), naive.torn);
    }

    private void giveSheet() {
        emptyTape();
        byte[] bytes = new byte[1 + upTo(oneIn(4) ? 72 : 16)];
        for (int k = 0; k < bytes.length; k++) {
            bytes[k] = (byte) (oneIn(3) ? upTo(256) & upTo(256) : 0);
        }
        feed(bytes);
        same("row -1", real.row(-1), naive.row(-1));
        same("torn", real.torn(), naive.torn);
    }

    // ---- texts

    private String word(String... words) {
        return words[upTo(words.length)];
    }

    private String sum(int depth) {
        StringBuilder s = new StringBuilder(part(depth));
        while (oneIn(3)) {
            s.append(word(" ", "")).append(word("+", "-", "*", "/")).append(word(" ", "")).append(part(depth));
        }
        return s.toString();
    }

    private String part(int depth) {
        if (oneIn(6) && depth < 9) {
            return "[" + sum(depth + 1) + "]";
        }
        if (oneIn(2)) {
            return " " + word("figure", "beat", "helper", "other", "x", "y", "deep", "sticks") + " ";
        }
        return oneIn(12) ? "" + (990 + upTo(12)) : "" + upTo(5);
    }

    private String test(int depth) {
        StringBuilder s = new StringBuilder(plain(depth));
        while (oneIn(3)) {
            s.append(word(" or ", " and ")).append(plain(depth));
        }
        return s.toString();
    }

    private String plain(int depth) {
        if (oneIn(6)) {
            return " not " + plain(depth);
        }
        if (oneIn(5) && depth < 9) {
            return "(" + test(depth + 1) + ")";
        }
        return sum(depth) + word("<", ">", "=", "=") + sum(depth);
    }

    private String clause() {
        int kind = upTo(8);
        if (kind < 4) {
            return move(upTo(mostOn), upTo(4));
        }
        String head = kind < 6 ? "pass " + sum(0) : kind == 6 ? "slip " + upTo(101) + "+" + sum(0) : "bars ";
        return head + (kind == 7 || oneIn(2) ? " if " + test(0) : "");
    }

    private String move(int f, int from) {
        return "beat " + from + (oneIn(2) ? " to " + Math.min(oneIn(9) ? 12 : 11, from + upTo(5)) : "") + " " + f
            + (oneIn(6) ? " off" : " at " + upTo(oneIn(20) ? 40 : 12) + "," + upTo(6) + " deep " + (1 + upTo(oneIn(9) ? 34 : 9)));
    }

    private void text() {
        StringBuilder s = new StringBuilder(oneIn(40) ? "" : clause());
        int more = oneIn(9) ? 30 : upTo(7);
        for (int k = 0; k < more; k++) {
            s.append(word(";", " ; ")).append(clause());
        }
        if (oneIn(6)) {
            s.setLength(0);
            s.append("pass ").append("[".repeat(upTo(11))).append("x");
            s.append("+1".repeat(40 + upTo(15)));
        }
        if (oneIn(3) && s.length() > 0) {
            int at = upTo(s.length());
            switch (upTo(4)) {
                case 0:
                    s.deleteCharAt(at);
                    break;
                case 1:
                    s.insert(at, word("if", " ", "7", "x", "(", ")", "[", "]", ";", "not", "\u00e9", "A"));
                    break;
                case 2:
                    s.setLength(at);
                    break;
                default:
                    s.setCharAt(at, word("0", "b", "<", "+", " ", ",").charAt(0));
            }
        }
        if (s.length() > 400) {
            s.setLength(400);
        }
        emptyTape();
        byte[] bytes = new byte[s.length()];
        for (int k = 0; k < bytes.length; k++) {
            bytes[k] = (byte) s.charAt(k);
        }
        told.append("  text: ").append(s).append('\n');
        feed(bytes);
        same("play", real.play(), naive.play());
        same("fault", real.fault(), naive.fault);
    }

    // ---- scenes that leave much to count

    /** FIGURES that are on for long, too far apart for few hands, with laws that forbid and price. */
    private void crowdedHolding() {
        StringBuilder s = new StringBuilder();
        int beats = 2 + upTo(5);
        for (int b = 0; b < beats; b++) {
            for (int f = 0; f < mostOn; f++) {
                if (!oneIn(8)) {
                    boolean still = oneIn(2);
                    s.append("beat ").append(b).append(still && b + 1 < beats ? " to " + (b + 1) : "").append(' ').append(f);
                    s.append(" at ").append(upTo(9)).append(",0 deep ").append(1 + upTo(9)).append(';');
                }
                if (s.toString().chars().filter(c -> c == ';').count() > 15) {
                    b = beats;
                    break;
                }
            }
        }
        String[] laws = {
            "bars if helper = " + upTo(4) + " and beat = " + upTo(4) + ";",
            "bars if helper + beat + figure = " + upTo(6) + ";",
            "bars if [helper + beat] / 2 * 2 = helper + beat;",
            "pass " + upTo(10) + ";",
            "pass helper + other - 1;",
            "pass 2 * figure if beat > 1;",
            "pass x / [deep - 2];",
            "pass 0 if other = 3;",
            "slip " + upTo(100) + " if not helper = 1;",
            "slip x * 10 + beat;"};
        for (String law : laws) {
            if (oneIn(3)) {
                s.append(law);
            }
        }
        s.append("slip 30");
        emptyTape();
        told.append("  text: ").append(s).append('\n');
        feed(s.substring(0, Math.min(400, s.length())).getBytes(java.nio.charset.StandardCharsets.ISO_8859_1));
        same("play", real.play(), naive.play());
        int[] values = {8, 1, 1 + upTo(3), upTo(2), upTo(4), upTo(12), upTo(12)};
        for (int what = 2; what < 7; what++) {
            same("terms " + what + " " + values[what], real.terms(what, values[what]), naive.terms(what, values[what]));
        }
        for (int b = 0; b <= beats && b < 12; b++) {
            ask(b);
        }
        for (int f = 0; f < 6; f++) {
            same("passed " + f, real.passed(f), naive.passed(f));
        }
        same("show 77", real.show(77), naive.show(77));
        for (int b = 0; b < 12; b++) {
            same("slipped " + b, real.slipped(b), naive.slipped(b));
        }
    }

    /** A SHEET that some FIGURES have really made, and perhaps others too. */
    private void crowdedSheet() {
        int lamp = oneIn(3) ? 2 + upTo(14) : 8;
        same("terms 0 " + lamp, real.terms(0, lamp), naive.terms(0, lamp));
        int kinds = 1 + upTo(3);
        for (int f = 0; f < 6; f++) {
            emptyTape();
            byte[] bytes = new byte[1 + upTo(2)];
            for (int j = 0; j < bytes.length; j++) {
                bytes[j] = (byte) (f % kinds == 0 ? 1 + upTo(3) : 1 + upTo(2));
            }
            feed(bytes);
            same("row " + f, real.row(f), naive.row(f));
        }
        int near = upTo(10);
        for (int f = 0; f < 3; f++) {
            if (!oneIn(4)) {
                place(f, 0, near + upTo(4), upTo(4), 1 + upTo(8));
            }
        }
        for (int f = 0; f < 6; f++) {
            same("seen " + f, real.seen(f, 0, 0), naive.seen(f, 0, 0));
            same("hidden " + f, real.seen(f, 0, 1), naive.seen(f, 0, 1));
            same("blur " + f, real.seen(f, 0, 2), naive.seen(f, 0, 2));
            same("common " + f, real.common(f, 1, 0), naive.common(f, 1, 0));
        }
        same("copy 0", real.copy(0), naive.copy(0));
        int cast = (1 << naive.s.sticks.size()) - 1 & (oneIn(3) ? 63 : 7);
        for (int what = 0; what < 2; what++) {
            same("made " + cast + " " + what, real.made(cast, what), naive.made(cast, what));
        }
        for (int f = 0; f < 4 && real.made(cast, 1) > 0; f++) {
            for (int what = 0; what < 4; what++) {
                same("who " + cast + " " + f + " " + what, real.who(cast, f, what), naive.who(cast, f, what));
            }
        }
    }

    /** A band of CELLS that bars of all lengths can overlap on in many ways, so that the first of them matters. */
    private void overlappingSheet() {
        int lamp = 2 + upTo(2);
        same("terms 0 " + lamp, real.terms(0, lamp), naive.terms(0, lamp));
        for (int f = 0; f < 6; f++) {
            emptyTape();
            feed(new byte[] {(byte) (oneIn(4) ? 1 + upTo(255) : (1 << (1 + upTo(5))) - 1)});
            same("row " + f, real.row(f), naive.row(f));
        }
        int length = 3 + upTo(9);
        int band = (1 << length) - 1 << (oneIn(3) ? 32 - length : upTo(20));
        if (oneIn(4)) {
            band &= ~(1 << upTo(32));
        }
        emptyTape();
        feed(new byte[] {(byte) (band >>> 24), (byte) (band >>> 16), (byte) (band >>> 8), (byte) band});
        same("row -1", real.row(-1), naive.row(-1));
        for (int turn = 0; turn < 3; turn++) {
            int cast = (1 << naive.s.sticks.size()) - 1 & (turn == 0 ? 63 : upTo(64));
            for (int what = 0; what < 2; what++) {
                same("made " + cast + " " + what, real.made(cast, what), naive.made(cast, what));
            }
            for (int f = 0; f < 6; f++) {
                for (int what = 0; what < 4; what++) {
                    same("who " + cast + " " + f + " " + what, real.who(cast, f, what), naive.who(cast, f, what));
                }
            }
        }
    }

    // ---- groups of calls

    private void holding() {
        int f = upTo(mostOn);
        int b = b();
        switch (upTo(6)) {
            case 0: {
                int from = upTo(4);
                for (int k = from; k < from + upTo(4); k++) {
                    place(f, k, upTo(12), upTo(4), 1 + upTo(10));
                }
                break;
            }
            case 1: {
                int x = upTo(20);
                int deep = 1 + upTo(10);
                for (int k = 0; k < 3; k++) {
                    place(f, k, x, 0, deep);
                }
                break;
            }
            case 2:
                term(2 + upTo(5));
                break;
            case 3:
                text();
                break;
            default:
                ask(b);
        }
    }

    private void place(int f, int b, int x, int y, int deep) {
        same("on " + f + " " + b + " " + x + " " + y + " " + deep, real.on(f, b, x, y, deep), naive.on(f, b, x, y, deep));
    }

    private void term(int what) {
        int[] high = {32, 16, 3, 1, 6, 31, 31};
        int value = what > 4 && what < 7 ? upTo(14) : what >= 0 && what < 7 ? some(0, high[what]) : 0;
        same("terms " + what + " " + value, real.terms(what, value), naive.terms(what, value));
    }

    private void ask(int b) {
        same("least 0", real.least(0), naive.least(0));
        same("least 1", real.least(1), naive.least(1));
        same("holdings " + b, real.holdings(b), naive.holdings(b));
        same("fewest", real.fewest(), naive.fewest());
        same("barred 0", real.barred(0), naive.barred(0));
        same("barred 1", real.barred(1), naive.barred(1));
        for (int f = 0; f < 6; f++) {
            same("holder " + f + " " + b, real.holder(f, b), naive.holder(f, b));
            if (oneIn(3)) {
                same("passed " + f, real.passed(f), naive.passed(f));
            }
        }
    }

    private void making() {
        int b = b();
        switch (upTo(4)) {
            case 0:
                giveSheet();
                break;
            case 1:
                place(upTo(3), b, upTo(8), upTo(5), 1 + upTo(10));
                place(upTo(3), b, upTo(8), upTo(5), 1 + upTo(10));
                same("copy " + b, real.copy(b), naive.copy(b));
                break;
            case 2:
                giveOutline(upTo(3));
                break;
            default: {
                if (naive.s.told.size() > 40 && naive.s.told.size() <= 64 && !oneIn(4)) {
                    return;
                }
                int cast = upTo(oneIn(4) ? 64 : 8);
                same("made " + cast + " 0", real.made(cast, 0), naive.made(cast, 0));
                same("made " + cast + " 1", real.made(cast, 1), naive.made(cast, 1));
                int f = upTo(6);
                int what = upTo(4);
                same("who " + cast + " " + f + " " + what, real.who(cast, f, what), naive.who(cast, f, what));
            }
        }
    }

    private void anything() {
        int f = f();
        int b = b();
        int k = some(0, 3);
        switch (upTo(30)) {
            case 0:
                same("figure " + k, real.figure(k), naive.figure(k));
                break;
            case 1:
                same("sticks " + f + " " + k, real.sticks(f, k), naive.sticks(f, k));
                break;
            case 2:
                term(some(0, 6));
                break;
            case 3:
            case 4:
            case 5: {
                int deep = some(1, oneIn(5) ? 32 : 9);
                place(oneIn(4) ? -1 : upTo(mostOn), b, some(0, oneIn(4) ? 31 : 8), some(0, oneIn(4) ? 15 : 5), deep);
                break;
            }
            case 6:
                same("off " + f + " " + b, real.off(f, b), naive.off(f, b));
                break;
            case 7:
                same("of " + f + " " + b + " " + k, real.of(f, b, k), naive.of(f, b, k));
                break;
            case 8: {
                int v = random.nextInt();
                same("feed " + v, real.feed(v, v * 31, v * 7, -v, ~v), naive.feed(v, v * 31, v * 7, -v, ~v));
                int n = some(0, 20);
                same("end " + n, real.end(n), naive.end(n));
                break;
            }
            case 9: {
                int g = some(-1, 5);
                same("row " + g, real.row(g), naive.row(g));
                same("torn", real.torn(), naive.torn);
                break;
            }
            case 10: {
                int j = some(0, 7);
                same("outline " + f + " " + j, real.outline(f, j), naive.outline(f, j));
                break;
            }
            case 11:
                text();
                break;
            case 12:
            case 13: {
                int g = some(-1, 3);
                int r = some(0, 15);
                same("shadow " + g + " " + b + " " + r, real.shadow(g, b, r), naive.shadow(g, b, r));
                break;
            }
            case 14:
                same("seen " + f + " " + b + " " + k, real.seen(f, b, k), naive.seen(f, b, k));
                same("seen 1 " + b + " 1", real.seen(1, b, 1), naive.seen(1, b, 1));
                break;
            case 15: {
                int g = upTo(3);
                same("common " + f + " " + g + " " + b, real.common(f, g, b), naive.common(f, g, b));
                break;
            }
            case 16:
            case 17: {
                int set = oneIn(9) ? random.nextInt() : upTo(1 << mostOn);
                same("holds " + k + " " + b + " " + set, real.holds(k, b, set), naive.holds(k, b, set));
                break;
            }
            case 18:
                same("holdings " + b, real.holdings(b), naive.holdings(b));
                break;
            case 19:
                same("least " + k, real.least(k), naive.least(k));
                same("fewest", real.fewest(), naive.fewest());
                break;
            case 20:
                same("holder " + f + " " + b, real.holder(f, b), naive.holder(f, b));
                break;
            case 21:
                same("passed " + f, real.passed(f), naive.passed(f));
                break;
            case 22:
                same("barred " + k, real.barred(k), naive.barred(k));
                break;
            case 23: {
                int cast = oneIn(5) ? random.nextInt() : upTo(8);
                if (naive.s.told.size() < 30) {
                    same("made " + cast + " " + k, real.made(cast, k), naive.made(cast, k));
                    same("who " + cast + " " + f + " " + k, real.who(cast, f, k), naive.who(cast, f, k));
                }
                break;
            }
            case 24: {
                int r = some(0, 15);
                same("sheet " + r, real.sheet(r), naive.sheet(r));
                break;
            }
            case 25:
                same("copy " + b, real.copy(b), naive.copy(b));
                break;
            case 26: {
                int seed = some(0, 1000000);
                same("show " + seed, real.show(seed), naive.show(seed));
                for (int beat = -1; beat < 13; beat++) {
                    same("slipped " + beat, real.slipped(beat), naive.slipped(beat));
                }
                break;
            }
            case 27:
                same("image " + k, real.image(k), naive.image(k));
                break;
            case 28:
                if (oneIn(2)) {
                    same("back " + k, real.back(k), naive.back(k));
                }
                break;
            default:
                for (int what = -1; what < 13; what++) {
                    same("count " + what, real.count(what), naive.count(what));
                }
        }
    }
}
