import java.util.ArrayList;
import java.util.HashSet;
import java.util.List;
import java.util.Set;

/** MADE in the plainest way: every place of every figure, every two and three of them, one after the other. */
final class Ways {
    int count = 0;
    int fewest = ClothPlay.NONE;
    /** DEEP, X and Y by figure in the first way with the fewest; null for those that are not in it. */
    int[][] first;

    private final List<List<long[]>> shadows = new ArrayList<>();
    private final int[] sheet = new int[16];
    private long full = 0;

    Ways(int[][] outlines, int[] rows, int lamp) {
        System.arraycopy(rows, 0, sheet, 0, rows.length);
        full = cellsOf(sheet);
        for (int[] outline : outlines) {
            shadows.add(shadowsOf(outline, lamp));
        }
        for (int set = 1; set < 1 << outlines.length; set++) {
            if (Integer.bitCount(set) <= 3) {
                choose(set, 0, new long[outlines.length][]);
            }
        }
    }

    /** The told cells among these rows, by their order on the sheet. */
    private long cellsOf(int[] rows) {
        long cells = 0;
        int number = 0;
        for (int k = 0; k < 512; k++) {
            if ((sheet[k / 32] >>> k % 32 & 1) == 1) {
                cells |= (long) (rows[k / 32] >>> k % 32 & 1) << number;
                number++;
            }
        }
        return cells;
    }

    private List<long[]> shadowsOf(int[] outline, int lamp) {
        List<long[]> found = new ArrayList<>();
        Set<Long> known = new HashSet<>();
        for (int deep = 1; deep <= Math.min(8, lamp); deep++) {
            for (int x = 0; x < 32; x++) {
                for (int y = 0; y < 16; y++) {
                    int[] rows = shadow(outline, lamp, deep, x, y);
                    boolean within = rows != null;
                    if (within && cellsOf(rows) != 0 && known.add(cellsOf(rows))) {
                        found.add(new long[] {cellsOf(rows), deep, x, y});
                    }
                }
            }
        }
        return found;
    }

    /** Null, if a cell of it is not told. */
    private int[] shadow(int[] outline, int lamp, int deep, int x, int y) {
        int[] rows = new int[16];
        for (int k = 0; k < 512; k++) {
            int a = (2 * (k % 32) + 1) * deep / (2 * lamp) - x;
            int b = (2 * (k / 32) + 1) * deep / (2 * lamp) - y;
            if (a >= 0 && a < 8 && b >= 0 && b < outline.length && (outline[b] >> a & 1) == 1) {
                if ((sheet[k / 32] >>> k % 32 & 1) == 0) {
                    return null;
                }
                rows[k / 32] |= 1 << k % 32;
            }
        }
        return rows;
    }

    private void choose(int set, int figure, long[][] chosen) {
        if (figure == chosen.length) {
            look(set, chosen);
            return;
        }
        if ((set >> figure & 1) == 0) {
            choose(set, figure + 1, chosen);
            return;
        }
        for (long[] shadow : shadows.get(figure)) {
            chosen[figure] = shadow;
            choose(set, figure + 1, chosen);
        }
        chosen[figure] = null;
    }

    private void look(int set, long[][] chosen) {
        long once = 0;
        long twice = 0;
        for (long[] c : chosen) {
            if (c != null) {
                twice |= once & c[0];
                once |= c[0];
            }
        }
        boolean good = once == full;
        for (long[] c : chosen) {
            good = good && (c == null || (c[0] & ~twice) != 0);
        }
        if (!good) {
            return;
        }
        count++;
        if (fewest == ClothPlay.NONE || Integer.bitCount(set) < fewest) {
            fewest = Integer.bitCount(set);
            first = new int[chosen.length][];
            for (int f = 0; f < chosen.length; f++) {
                long[] c = chosen[f];
                first[f] = c == null ? null : new int[] {(int) c[1], (int) c[2], (int) c[3]};
            }
        }
    }
}
