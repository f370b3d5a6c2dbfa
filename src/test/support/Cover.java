/**
 * A head made so that chosen places drill chosen holes, and no other place drills any:
 * the hole of width w is at 10 w, 0, and each place has spindles of its own.
 */
final class Cover {
    final DrillHeads drill = new DrillHeads(16);
    private int spindles;

    /** The head at x, y drills the holes of these widths. */
    Cover place(int x, int y, int... widths) {
        for (int w : widths) {
            drill.spindle(spindles, 10 * w - x, 0 - y, w);
            spindles++;
        }
        return this;
    }

    /** Holes of these widths, in this order, all alike. */
    Cover holes(int... widths) {
        for (int w : widths) {
            drill.hole(10 * w, 0, w, 12, 0);
        }
        return this;
    }
}
