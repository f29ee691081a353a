/** Making scenes: what every test needs before it can ask anything. */
abstract class Props {
    static final int NONE = ClothPlay.NONE;

    /** The TAPE has just these bytes. */
    static void bytes(ClothPlay p, int... bytes) {
        p.end(0);
        for (int k = 0; k < bytes.length; k += 20) {
            int[] v = new int[5];
            for (int j = 0; j < 20; j++) {
                v[j / 4] = v[j / 4] << 8 | (k + j < bytes.length ? bytes[k + j] : 0);
            }
            p.feed(v[0], v[1], v[2], v[3], v[4]);
        }
        p.end(bytes.length);
    }

    static int play(ClothPlay p, String text) {
        bytes(p, text.chars().toArray());
        return p.play();
    }

    static ClothPlay with(int... sticks) {
        ClothPlay p = new ClothPlay();
        for (int s : sticks) {
            p.figure(s);
        }
        return p;
    }

    /** One FIGURE with one STICK for each place x, y, deep on BEAT 0, each of one cell. */
    static ClothPlay standing(int[]... places) {
        ClothPlay p = new ClothPlay();
        for (int f = 0; f < places.length; f++) {
            p.figure(1);
            outline(p, f, 1);
            p.on(f, 0, places[f][0], places[f][1], places[f][2]);
        }
        return p;
    }

    static int[] at(int x, int y, int deep) {
        return new int[] {x, y, deep};
    }

    static int outline(ClothPlay p, int figure, int... rows) {
        bytes(p, rows);
        return p.row(figure);
    }

    static int told(ClothPlay p, int... rows) {
        int[] all = new int[rows.length * 4];
        for (int k = 0; k < all.length; k++) {
            all[k] = rows[k / 4] >>> (24 - k % 4 * 8) & 255;
        }
        bytes(p, all);
        return p.row(NONE);
    }
}
