/**
 * "A call that throws changes nothing; of several exceptions the one named first is thrown."
 * Each call that must throw, in each kind of state; after it, the object is compared with a twin that did not see it.
 */
public final class DrillHeadsRefusals {
    private static final String STATE = "IllegalStateException";
    private static final String INDEX = "IndexOutOfBoundsException";
    private static final String ARGUMENT = "IllegalArgumentException";

    private interface Call {
        long on(DrillHeads d);
    }

    public static void main(String[] args) {
        int[][] noHoles = {};
        int[][] noClamps = {};
        everyState("nothing there yet", new int[][] {{0, 0, 0}, {0, 0, 0}}, noHoles, noClamps, 0);
        everyState("some of each",
                new int[][] {{0, 0, 5}, {10, 0, 5}, {7, 8, 0}},
                new int[][] {{0, 0, 5, 12, 0, 0}, {10, 0, 5, 12, 0, 0}, {40, 3, 5, 700, 4, 1}, {0, 0, 9, 12, 0, 0}},
                new int[][] {{500, 500, 501, 501}, {29, 2, 30, 3}}, 2);
        everyState("no room left", fullHead(), fullPart(), fullClamps(), 2);
        Due.end();
    }

    private static int[][] fullHead() {
        int[][] spindles = new int[16][];
        for (int k = 0; k < 16; k++) {
            spindles[k] = new int[] {10 * k, 0, 5};
        }
        return spindles;
    }

    /** The first twelve holes go with one hit, the next one is of another face, the last one is SINGLE. */
    private static int[][] fullPart() {
        int[][] holes = new int[14][];
        for (int h = 0; h < 14; h++) {
            holes[h] = new int[] {10 * h, 0, 5, 1000, 0, h < 13 ? 1 : 0};
        }
        holes[12][4] = 4;
        holes[13][2] = 100;
        return holes;
    }

    private static int[][] fullClamps() {
        int[][] clamps = new int[6][];
        for (int c = 0; c < 6; c++) {
            clamps[c] = new int[] {-20000, 1000 + c, 20000, 20000};
        }
        return clamps;
    }

    private static void everyState(String name, int[][] spindles, int[][] holes, int[][] clamps, int hits) {
        refuseInState(new State(name + ", not planned", spindles, holes, clamps, false, hits));
        refuseInState(new State(name + ", planned", spindles, holes, clamps, true, hits));
    }

    private static void refuseInState(State s) {
        Due.answer(s.name + ": its hits", s.hits, () -> s.make().run());
        refuseSpindle(s);
        refuseHole(s);
        refuseThrough(s);
        refuseClamp(s);
        refuseMirror(s);
        refuseHit(s);
        refuseDrills(s);
        refuseOfOneHole(s);
        refuseOrder(s);
        refuseWithoutPlan(s);
    }

    private static void refuseSpindle(State s) {
        int last = s.spindles.length - 1;
        for (int k : Setup.outside(0, last)) {
            refused(s, INDEX, "spindle(" + k + ", ..)", d -> Due.bit(d.spindle(k, 0, 0, 5)));
            refused(s, INDEX, "spindle(" + k + ", wrong numbers)", d -> Due.bit(d.spindle(k, 10001, -10001, 101)));
        }
        for (int k : new int[] {0, last}) {
            for (int n : Setup.outside(-10000, 10000)) {
                refused(s, ARGUMENT, "spindle(" + k + ", x " + n + ")", d -> Due.bit(d.spindle(k, n, 1, 5)));
                refused(s, ARGUMENT, "spindle(" + k + ", y " + n + ")", d -> Due.bit(d.spindle(k, 1, n, 5)));
            }
            for (int n : Setup.outside(0, 100)) {
                refused(s, ARGUMENT, "spindle(" + k + ", width " + n + ")", d -> Due.bit(d.spindle(k, 1, 1, n)));
            }
        }
    }

    private static void refuseHole(State s) {
        boolean full = s.holes.length == 14;
        String wrong = full ? STATE : ARGUMENT;
        if (full) {
            refused(s, STATE, "hole(..)", d -> d.hole(0, 0, 5, 12, 0));
        }
        for (int n : Setup.outside(-10000, 10000)) {
            refused(s, wrong, "hole(x " + n + ")", d -> d.hole(n, 0, 5, 12, 0));
            refused(s, wrong, "hole(y " + n + ")", d -> d.hole(0, n, 5, 12, 0));
        }
        for (int n : Setup.outside(1, 100)) {
            refused(s, wrong, "hole(width " + n + ")", d -> d.hole(0, 0, n, 12, 0));
        }
        for (int n : Setup.outside(1, 1000)) {
            refused(s, wrong, "hole(depth " + n + ")", d -> d.hole(0, 0, 5, n, 0));
        }
        for (int n : Setup.outside(0, 4)) {
            refused(s, wrong, "hole(face " + n + ")", d -> d.hole(0, 0, 5, 12, n));
        }
        refused(s, wrong, "hole(all wrong)", d -> d.hole(10001, -10001, 0, 1001, 5));
    }

    private static void refuseThrough(State s) {
        for (int h : Setup.outside(0, s.holes.length - 1)) {
            refused(s, INDEX, "through(" + h + ", true)", d -> Due.bit(d.through(h, true)));
            refused(s, INDEX, "through(" + h + ", false)", d -> Due.bit(d.through(h, false)));
        }
        refused(s, INDEX, "through(14, true)", d -> Due.bit(d.through(14, true)));
    }

    /** A wrong clamp throws whether there is room or not. */
    private static void refuseClamp(State s) {
        for (int n : Setup.outside(-20000, 20000)) {
            refused(s, ARGUMENT, "clamp(x0 " + n + ")", d -> Due.bit(d.clamp(n, 0, 20000, 20000)));
            refused(s, ARGUMENT, "clamp(y0 " + n + ")", d -> Due.bit(d.clamp(0, n, 20000, 20000)));
            refused(s, ARGUMENT, "clamp(x1 " + n + ")", d -> Due.bit(d.clamp(-20000, -20000, n, 0)));
            refused(s, ARGUMENT, "clamp(y1 " + n + ")", d -> Due.bit(d.clamp(-20000, -20000, 0, n)));
            refused(s, ARGUMENT, "clamp(x0 and x1 " + n + ")", d -> Due.bit(d.clamp(n, 0, n, 1)));
            refused(s, ARGUMENT, "clamp(y0 and y1 " + n + ")", d -> Due.bit(d.clamp(0, n, 1, n)));
        }
        for (int n : new int[] {-19999, 0, 1, 20000}) {
            refused(s, ARGUMENT, "clamp(x1 below x0 " + n + ")", d -> Due.bit(d.clamp(n, -5, n - 1, 5)));
            refused(s, ARGUMENT, "clamp(y1 below y0 " + n + ")", d -> Due.bit(d.clamp(-5, n, 5, n - 1)));
        }
    }

    private static void refuseMirror(State s) {
        for (int axis : Setup.outside(0, 1)) {
            refused(s, ARGUMENT, "mirror(" + axis + ")", d -> d.mirror(axis));
        }
    }

    private static void refuseHit(State s) {
        String noSuch = s.planned ? INDEX : STATE;
        for (int k : Setup.outside(0, s.hits - 1)) {
            for (int what : new int[] {-1, 0, 3, 4}) {
                refused(s, noSuch, "hit(" + k + ", " + what + ")", d -> d.hit(k, what));
            }
        }
        for (int k = 0; k < s.hits; k++) {
            int hit = k;
            for (int what : Setup.outside(0, 3)) {
                refused(s, s.planned ? ARGUMENT : STATE, "hit(" + k + ", " + what + ")", d -> d.hit(hit, what));
            }
        }
    }

    private static void refuseDrills(State s) {
        String noSuch = s.planned ? INDEX : STATE;
        int[] wrongHoles = Setup.outside(0, s.holes.length - 1);
        for (int k : Setup.outside(0, s.hits - 1)) {
            refused(s, noSuch, "drills(" + k + ", 0)", d -> Due.bit(d.drills(k, 0)));
            for (int h : wrongHoles) {
                refused(s, noSuch, "drills(" + k + ", " + h + ")", d -> Due.bit(d.drills(k, h)));
            }
        }
        for (int h : wrongHoles) {
            refused(s, noSuch, "drills(0, " + h + ")", d -> Due.bit(d.drills(0, h)));
        }
    }

    private static void refuseOfOneHole(State s) {
        String noSuch = s.planned ? INDEX : STATE;
        for (int h : Setup.outside(0, s.holes.length - 1)) {
            refused(s, noSuch, "by(" + h + ")", d -> d.by(h));
            refused(s, noSuch, "single(" + h + ")", d -> Due.bit(d.single(h)));
            refused(s, INDEX, "places(" + h + ")", d -> d.places(h));
        }
    }

    private static void refuseOrder(State s) {
        for (int k : Setup.outside(0, s.hits - 1)) {
            refused(s, s.planned ? INDEX : STATE, "order(" + k + ")", d -> d.order(k));
        }
    }

    private static void refuseWithoutPlan(State s) {
        if (s.planned) {
            return;
        }
        for (int i = 0; i < 4; i++) {
            int n = i;
            refused(s, STATE, "hit(0, " + i + ")", d -> d.hit(0, n));
        }
        refused(s, STATE, "drills(0, 0)", d -> Due.bit(d.drills(0, 0)));
        refused(s, STATE, "by(0)", d -> d.by(0));
        refused(s, STATE, "single(0)", d -> Due.bit(d.single(0)));
        refused(s, STATE, "order(0)", d -> d.order(0));
        refused(s, STATE, "travel()", d -> d.travel());
        refused(s, STATE, "least()", d -> Due.bit(d.least()));
        refused(s, STATE, "bound()", d -> d.bound());
        refused(s, STATE, "seconds()", d -> d.seconds());
    }

    private static void refused(State s, String exception, String call, Call c) {
        String what = s.name + ": " + call;
        DrillHeads d = s.make();
        DrillHeads twin = s.make();
        Due.compare(what, "throws." + exception, Due.outcome(() -> c.on(d)));
        Due.compare(what + " changes no plan", plan(twin), plan(d));
        Due.compare(what + " changes no number of hits", Due.outcome(twin::run), Due.outcome(d::run));
        Due.compare(what + " changes no later plan", plan(twin), plan(d));
        Due.compare(what + " changes nothing that was told", s.toldAgain(twin), s.toldAgain(d));
    }

    /** All answers that change nothing, as one text. */
    private static String plan(DrillHeads d) {
        StringBuilder text = new StringBuilder();
        int hits = countHits(d);
        for (int k = 0; k < hits; k++) {
            int hit = k;
            text.append(" hit ").append(Due.outcome(() -> d.order(hit)));
            for (int w = 0; w < 4; w++) {
                int what = w;
                text.append(", ").append(Due.outcome(() -> d.hit(hit, what)));
            }
        }
        for (int h = 0; h < 14; h++) {
            int hole = h;
            text.append(" hole ").append(Due.outcome(() -> d.places(hole)));
            text.append(", ").append(Due.outcome(() -> d.by(hole)));
            text.append(", ").append(Due.outcome(() -> Due.bit(d.single(hole))));
            for (int k = 0; k < hits; k++) {
                int hit = k;
                text.append(", ").append(Due.outcome(() -> Due.bit(d.drills(hit, hole))));
            }
        }
        text.append(" all ").append(Due.outcome(d::travel)).append(", ").append(Due.outcome(d::bound));
        text.append(", ").append(Due.outcome(d::seconds)).append(", ").append(Due.outcome(() -> Due.bit(d.least())));
        return text.toString();
    }

    private static int countHits(DrillHeads d) {
        int hits = 0;
        while (hits < 14 && isOrdered(d, hits)) {
            hits++;
        }
        return hits;
    }

    private static boolean isOrdered(DrillHeads d, int k) {
        return !Due.outcome(() -> d.order(k)).startsWith("throws");
    }

    private record State(String name, int[][] spindles, int[][] holes, int[][] clamps, boolean planned, int hits) {
        DrillHeads make() {
            DrillHeads d = new DrillHeads(spindles.length);
            for (int k = 0; k < spindles.length; k++) {
                d.spindle(k, spindles[k][0], spindles[k][1], spindles[k][2]);
            }
            for (int[] h : holes) {
                int number = d.hole(h[0], h[1], h[2], h[3], h[4]);
                d.through(number, h[5] == 1);
            }
            for (int[] c : clamps) {
                d.clamp(c[0], c[1], c[2], c[3]);
            }
            if (planned) {
                d.run();
            }
            return d;
        }

        /** What it says to all that was told before, and how much room it has: for the end of a test. */
        String toldAgain(DrillHeads d) {
            StringBuilder text = new StringBuilder();
            for (int k = 0; k < spindles.length; k++) {
                text.append(d.spindle(k, spindles[k][0], spindles[k][1], spindles[k][2])).append(' ');
            }
            for (int h = 0; h < holes.length; h++) {
                text.append(d.through(h, holes[h][5] == 1)).append(' ');
            }
            Due.no(name + ": what was told is still so", text.indexOf("true") >= 0);
            text.append(Due.outcome(() -> d.mirror(0))).append(' ');
            for (int c = 0; c < 7; c++) {
                text.append(d.clamp(0, 0, 0, 0)).append(' ');
            }
            for (int h = 0; h < 15; h++) {
                text.append(Due.outcome(() -> d.hole(0, 0, 5, 12, 0))).append(' ');
            }
            return text.toString();
        }
    }

    private DrillHeadsRefusals() {
    }
}
