/** Heads and parts that several tests use, and looks at a plan. */
final class Setup {
    static final int MIN = Integer.MIN_VALUE;
    static final int MAX = Integer.MAX_VALUE;

    private Setup() {
    }

    /** A head of spindles of width 5 in a row along x, ten apart, the first at 0, 0. */
    static DrillHeads row(int spindles) {
        DrillHeads d = new DrillHeads(spindles);
        for (int k = 0; k < spindles; k++) {
            d.spindle(k, 10 * k, 0, 5);
        }
        return d;
    }

    /** Holes of width 5 and depth 12 on face 0, at y = 0. */
    static void holesAt(DrillHeads d, int... xs) {
        for (int x : xs) {
            d.hole(x, 0, 5, 12, 0);
        }
    }

    /** Holes at one place, no two of them alike: each has a hit of its own. */
    static void holesOfDepths(DrillHeads d, int x, int y, int holes) {
        for (int h = 0; h < holes; h++) {
            d.hole(x, y, 5, 1 + h, 0);
        }
    }

    /** The numbers just outside a range, and those farthest outside. */
    static int[] outside(int least, int greatest) {
        return new int[] {MIN, least - 1, greatest + 1, MAX};
    }

    static void hitIs(String what, DrillHeads d, int k, int x, int y, int face, int holes) {
        Due.answer(what + ": X of hit " + k, x, () -> d.hit(k, 0));
        Due.answer(what + ": Y of hit " + k, y, () -> d.hit(k, 1));
        Due.answer(what + ": face of hit " + k, face, () -> d.hit(k, 2));
        Due.answer(what + ": holes of hit " + k, holes, () -> d.hit(k, 3));
    }

    static void orderIs(String what, DrillHeads d, int... hits) {
        for (int k = 0; k < hits.length; k++) {
            int at = k;
            Due.answer(what + ": order(" + k + ")", hits[k], () -> d.order(at));
        }
        Due.noIndex(what + ": order(" + hits.length + ")", () -> d.order(hits.length));
    }
}
