import java.util.Arrays;

/** The document's part 'Terms', sentence by sentence: above each test stands the sentence that it is for. */
public final class DrillHeadsTerms {
    public static void main(String[] args) {
        usedForManyCalls();
        spindlesAreNumbered();
        noSpindleIsThereAtFirst();
        holesAreNumberedAsTold();
        depthOfThroughDoesNotCount();
        alikeHoles();
        alikeOfNearDepths();
        alikeOfFaces();
        spindleIsJustThere();
        hitAcrossTheWholePart();
        barredOnEachSide();
        barredByOneOfSix();
        barredOnAllFaces();
        barredByClampWithAnInside();
        barredAtTheFarthestPlaces();
        frameOfSpindlesThatAreThere();
        singleHoles();
        fewestHits();
        hitHasTheLeastHole();
        firstPlaceByXThenY();
        eachPlaceCanBeTheFirst();
        firstPlaceOfTheFewest();
        hitDrillsWhatWasNotDrilled();
        wayStartsAtZero();
        shortestWithTenHits();
        nearestIsNotShortest();
        shortestOfAllOrders();
        firstOfSeveralShortest();
        ownOrderWithMoreHits();
        ownOrderAfterAnother();
        shortestAfterOtherPlans();
        tellsSomething();
        tellsNothing();
        Due.end();
    }

    /** "An object is used for at most 512 calls after it has been made; what later calls answer is free." */
    private static void usedForManyCalls() {
        DrillHeads d = Setup.row(15);
        for (int h = 0; h < 14; h++) {
            d.hole(10 * h, 0, 5, 12, 0);
        }
        int calls = 15 + 14;
        for (; calls < 509; calls += 2) {
            boolean there = calls % 4 == 1;
            d.spindle(14, 140, 0, there ? 5 : 0);
            Due.answer("run() as call " + (calls + 2), 1, () -> d.run());
        }
        d.mirror(0);
        Due.answer("run() as call 511", 1, () -> d.run());
        Due.answer("hit(0, 3) as call 512", 0x3fff, () -> d.hit(0, 3));
        Due.same("calls", 512, calls + 3);
    }

    /** "SPINDLES 0 .. n - 1 have a place x, y on the head and a WIDTH" */
    private static void spindlesAreNumbered() {
        for (int n = 1; n <= 16; n++) {
            int spindles = n;
            DrillHeads d = new DrillHeads(n);
            Due.noIndex(n + " spindles: -1", () -> Due.bit(d.spindle(-1, 1, 2, 3)));
            for (int k = 0; k < n; k++) {
                int number = k;
                Due.answer(n + " spindles: " + k, 1, () -> Due.bit(d.spindle(number, 1, 2, 3)));
            }
            Due.noIndex(n + " spindles: " + n, () -> Due.bit(d.spindle(spindles, 1, 2, 3)));
            d.run();
            d.hole(1, 2, 3, 4, 0);
            d.run();
            Due.answer(n + " spindles are there", 1, () -> d.bound());
        }
    }

    /** "at first none is there (WIDTH 0)" */
    private static void noSpindleIsThereAtFirst() {
        DrillHeads d = new DrillHeads(16);
        for (int k = 0; k < 16; k++) {
            Due.no("spindle " + k + " is not there", d.spindle(k, 0, 0, 0));
        }
        Setup.holesAt(d, 0, 0, 0);
        Due.same("nothing drills", 0, d.places(0));
        Due.same("no hits", 0, d.run());
        Due.same("none counts", 0, d.bound());

        d.spindle(15, 1000, 1000, 5);
        d.clamp(-1001, -1001, -999, -999);
        Due.same("those that are not there have no frame", 1, d.places(0));
        d.run();
        Due.same("one counts", 3, d.bound());
    }

    /** "HOLES 0 .. 13 (as they are told)" */
    private static void holesAreNumberedAsTold() {
        DrillHeads d = Setup.row(1);
        for (int h = 0; h < 14; h++) {
            int number = h;
            Due.noIndex("hole " + h + " is not told yet", () -> d.places(number));
            Due.answer("hole " + h, h, () -> d.hole(-number, 0, 5, 12, 0));
            Due.answer("hole " + h + " is there", 1, () -> d.places(number));
        }
        Due.noState("a hole more", () -> d.hole(0, 0, 5, 12, 0));
        Due.noIndex("hole 14", () -> d.places(14));
        Due.same("a hit for each", 14, d.run());
        for (int h = 0; h < 14; h++) {
            Setup.hitIs("as told", d, h, -h, 0, 0, 1 << h);
        }

        DrillHeads same = Setup.row(1);
        Due.same("a hole", 0, same.hole(1, 2, 5, 12, 3));
        Due.same("the very same again is a hole more", 1, same.hole(1, 2, 5, 12, 3));
    }

    /** "they may go THROUGH (then their DEPTH does not count)" */
    private static void depthOfThroughDoesNotCount() {
        DrillHeads d = Setup.row(3);
        d.hole(0, 0, 5, 1, 0);
        d.hole(10, 0, 5, 1000, 0);
        d.hole(20, 0, 5, 1, 0);
        Due.same("two depths", 2, d.run());
        d.through(0, true);
        Due.same("one through, two depths", 3, d.run());
        d.through(1, true);
        Due.same("two through, one depth", 2, d.run());
        Setup.hitIs("two through", d, 0, -10, 0, 0, 0b011);
        d.through(2, true);
        Due.same("all through", 1, d.run());
        d.through(1, false);
        Due.same("its depth counts again", 2, d.run());
        d.through(0, false);
        d.through(2, false);
        Due.same("all depths count again", 2, d.run());
        Setup.hitIs("depths are kept", d, 0, 0, 0, 0, 0b101);
    }

    /** "ALIKE if they are of one face, and both go THROUGH, or neither and they have the same DEPTH" */
    private static void alikeHoles() {
        for (int c = 0; c < 16; c++) {
            boolean oneFace = (c & 1) == 0;
            boolean oneDepth = (c & 2) == 0;
            boolean throughA = (c & 4) != 0;
            boolean throughB = (c & 8) != 0;
            DrillHeads d = Setup.row(2);
            d.hole(0, 0, 5, 12, 1);
            d.hole(10, 0, 5, oneDepth ? 12 : 13, oneFace ? 1 : 2);
            d.through(0, throughA);
            d.through(1, throughB);
            boolean alike = oneFace && (throughA && throughB || !throughA && !throughB && oneDepth);
            String what = "one face " + oneFace + ", one depth " + oneDepth + ", " + throughA + ", " + throughB;
            Due.same(what, alike ? 1 : 2, d.run());
        }
    }

    /** "the same DEPTH": one more or less is another one, at both ends of what is allowed. */
    private static void alikeOfNearDepths() {
        int[][] pairs = {
            {1, 1, 1}, {1, 2, 2}, {2, 1, 2}, {999, 1000, 2}, {1000, 999, 2}, {1000, 1000, 1}, {1, 1000, 2},
        };
        for (int[] p : pairs) {
            DrillHeads d = Setup.row(2);
            d.hole(0, 0, 5, p[0], 0);
            d.hole(10, 0, 5, p[1], 0);
            Due.same("depths " + p[0] + " and " + p[1], p[2], d.run());
        }
    }

    /** "of one face": each of the five by itself, in a hit of its own. */
    private static void alikeOfFaces() {
        for (int a = 0; a < 5; a++) {
            for (int b = 0; b < 5; b++) {
                DrillHeads d = Setup.row(2);
                d.hole(0, 0, 5, 12, a);
                d.hole(10, 0, 5, 12, b);
                Due.same("faces " + a + " and " + b, a == b ? 1 : 2, d.run());
                Setup.hitIs("its face", d, 0, a == b ? 0 : -10, 0, a, a == b ? 3 : 1);
            }
        }
    }

    /** "of which a spindle of their WIDTH is just at X + its x, Y + its y" */
    private static void spindleIsJustThere() {
        int[][] holes = {
            {30, 40, 7, 1}, {29, 40, 7, 2}, {31, 40, 7, 2}, {30, 39, 7, 2}, {30, 41, 7, 2},
            {40, 30, 7, 2}, {-30, -40, 7, 2},
        };
        for (int[] h : holes) {
            DrillHeads d = new DrillHeads(2);
            d.spindle(0, 0, 0, 5);
            d.spindle(1, 30, 40, 7);
            d.hole(0, 0, 5, 12, 0);
            d.hole(h[0], h[1], h[2], 12, 0);
            Due.same("a hole at " + h[0] + ", " + h[1], h[3], d.run());
        }
        int[][] widths = {{1, 1, 0}, {1, 2, 1}, {2, 1, 1}, {99, 100, 1}, {100, 99, 1}, {100, 100, 0}};
        for (int[] w : widths) {
            DrillHeads d = new DrillHeads(1);
            d.spindle(0, 0, 0, w[0]);
            d.hole(0, 0, w[1], 12, 0);
            d.run();
            Due.same("a spindle " + w[0] + " for a hole " + w[1], w[2], Due.bit(d.single(0)));
        }
    }

    /** "X + its x, Y + its y", from one end of the part to the other. */
    private static void hitAcrossTheWholePart() {
        DrillHeads d = new DrillHeads(2);
        d.spindle(0, -10000, 10000, 1);
        d.spindle(1, 10000, -10000, 100);
        d.hole(-10000, 10000, 1, 1000, 4);
        d.hole(10000, -10000, 100, 1000, 4);
        Due.same("both ends at once", 1, d.run());
        Setup.hitIs("both ends", d, 0, 0, 0, 4, 3);
        d.mirror(0);
        d.mirror(1);
        Due.same("the ends changed", 2, d.run());
        Setup.hitIs("changed", d, 0, 20000, -20000, 4, 1);
        Setup.hitIs("changed", d, 1, -20000, 20000, 4, 2);
    }

    /**
     * "overlaps a clamp (.. touching does not ..; a FRAME is taken one wider on each side)":
     * on each side and at each corner the last clamp that touches, and the first that does not.
     */
    private static void barredOnEachSide() {
        int[][][] heads = {
            {{0, 0, 5}},
            {{0, 0, 5}, {10, 0, 6}},
            {{0, 0, 5}, {0, 20, 6}},
            {{0, 0, 5}, {10, 20, 6}},
            {{0, 0, 5}, {-10, 7, 6}, {3, -20, 6}, {4, 4, 8}},
        };
        for (int[][] spindles : heads) {
            for (int place : new int[] {0, -300, 7000}) {
                Frame f = new Frame(spindles, place, place / 2);
                barredAtSides(f);
                barredAtCorners(f);
                f.bars("the clamp is all round it", true, f.x0 - 9, f.y0 - 9, f.x1 + 9, f.y1 + 9);
                f.bars("the clamp is the frame", true, f.x0, f.y0, f.x1, f.y1);
                f.bars("the least clamp inside", true, f.x0, f.y0, f.x0 + 1, f.y0 + 1);
                f.bars("across, from left to right", true, f.x0 - 9, f.y0 + 1, f.x1 + 9, f.y0 + 2);
                f.bars("across, from below to above", true, f.x0 + 1, f.y0 - 9, f.x0 + 2, f.y1 + 9);
            }
        }
    }

    private static void barredAtSides(Frame f) {
        for (int in = 0; in < 2; in++) {
            boolean bars = in == 1;
            String what = bars ? "one into the side " : "touches the side ";
            f.bars(what + "left", bars, f.x0 - 9, f.y0 - 9, f.x0 + in, f.y1 + 9);
            f.bars(what + "right", bars, f.x1 - in, f.y0 - 9, f.x1 + 9, f.y1 + 9);
            f.bars(what + "below", bars, f.x0 - 9, f.y0 - 9, f.x1 + 9, f.y0 + in);
            f.bars(what + "above", bars, f.x0 - 9, f.y1 - in, f.x1 + 9, f.y1 + 9);
        }
    }

    private static void barredAtCorners(Frame f) {
        for (int c = 0; c < 4; c++) {
            int inX = c & 1;
            int inY = c >> 1;
            boolean bars = c == 3;
            String what = inX + ", " + inY + " into the corner ";
            f.bars(what + "left below", bars, f.x0 - 9, f.y0 - 9, f.x0 + inX, f.y0 + inY);
            f.bars(what + "right below", bars, f.x1 - inX, f.y0 - 9, f.x1 + 9, f.y0 + inY);
            f.bars(what + "left above", bars, f.x0 - 9, f.y1 - inY, f.x0 + inX, f.y1 + 9);
            f.bars(what + "right above", bars, f.x1 - inX, f.y1 - inY, f.x1 + 9, f.y1 + 9);
        }
    }

    /** A head at a place where its spindle 0 (the only one of width 5, at 0, 0) drills a hole, and the FRAME there. */
    private static final class Frame {
        final int[][] spindles;
        final int placeX;
        final int placeY;
        int x0 = Setup.MAX;
        int y0 = Setup.MAX;
        int x1 = Setup.MIN;
        int y1 = Setup.MIN;

        Frame(int[][] spindles, int placeX, int placeY) {
            this.spindles = spindles;
            this.placeX = placeX;
            this.placeY = placeY;
            for (int[] s : spindles) {
                x0 = Math.min(x0, placeX + s[0] - 1);
                y0 = Math.min(y0, placeY + s[1] - 1);
                x1 = Math.max(x1, placeX + s[0] + 1);
                y1 = Math.max(y1, placeY + s[1] + 1);
            }
        }

        void bars(String what, boolean bars, int clampX0, int clampY0, int clampX1, int clampY1) {
            DrillHeads d = new DrillHeads(spindles.length);
            for (int k = 0; k < spindles.length; k++) {
                d.spindle(k, spindles[k][0], spindles[k][1], spindles[k][2]);
            }
            d.hole(placeX, placeY, 5, 12, 0);
            d.clamp(clampX0, clampY0, clampX1, clampY1);
            String where = spindles.length + " spindles at " + placeX + ", " + placeY + ": " + what;
            Due.same(where + ", places", bars ? 0 : 1, d.places(0));
            Due.same(where + ", hits", bars ? 0 : 1, d.run());
            Due.same(where + ", single", Due.bit(bars), Due.bit(d.single(0)));
        }
    }

    /** "overlaps a clamp": whichever of the six it is. */
    private static void barredByOneOfSix() {
        for (int bars = 0; bars < 7; bars++) {
            DrillHeads d = Setup.row(1);
            Setup.holesAt(d, 0);
            for (int c = 0; c < 6; c++) {
                int x = c == bars ? 0 : 100 + c;
                d.clamp(x, 0, x + 1, 1);
            }
            Due.same("the clamp " + bars + " bars", bars < 6 ? 0 : 1, d.places(0));
        }
    }

    /** "(on that face's plane ..)": "A clamp more, on all faces" */
    private static void barredOnAllFaces() {
        for (int face = 0; face < 5; face++) {
            DrillHeads d = Setup.row(1);
            d.hole(0, 0, 5, 12, face);
            d.hole(2, 0, 5, 12, face);
            d.clamp(-1, -1, 1, 1);
            Due.same("a clamp on face " + face, 1, d.run());
            Setup.hitIs("the hole beside the clamp", d, 0, 2, 0, face, 2);
        }
    }

    /** "nor does a clamp .. without an inside" */
    private static void barredByClampWithAnInside() {
        Frame f = new Frame(new int[][] {{0, 0, 5}, {10, 20, 6}}, 0, 0);
        for (int n = -2; n < 23; n++) {
            f.bars("a line along y at " + n, false, n, -100, n, 100);
            f.bars("a line along x at " + n, false, -100, n, 100, n);
            f.bars("a point at " + n, false, n, n, n, n);
        }
        f.bars("the longest line along y", false, 5, -20000, 5, 20000);
        f.bars("the longest line along x", false, -20000, 10, 20000, 10);
        f.bars("one wide", true, 5, -20000, 6, 20000);
        f.bars("one high", true, -20000, 10, 20000, 11);
    }

    /** A FRAME may lie beyond all clamps; it is the clamps' own ends that count there. */
    private static void barredAtTheFarthestPlaces() {
        farPlace("in the farthest corner", 1, 0, 19999, 19999, 20000, 20000);
        farPlace("left of the frame", 1, 1, -20000, -20000, 9999, 20000);
        farPlace("one into the frame", 1, 0, -20000, -20000, 10000, 20000);
        farPlace("in the other farthest corner", -1, 0, -20000, -20000, -19999, -19999);
        farPlace("above the frame", -1, 1, -20000, -9999, 20000, 20000);
        farPlace("one into the frame from above", -1, 0, -20000, -10000, 20000, 20000);
    }

    private static void farPlace(String what, int side, int places, int x0, int y0, int x1, int y1) {
        DrillHeads d = new DrillHeads(2);
        d.spindle(0, -10000 * side, -10000 * side, 5);
        d.spindle(1, 10000 * side, 10000 * side, 6);
        d.hole(10000 * side, 10000 * side, 5, 12, 0);
        d.clamp(x0, y0, x1, y1);
        Due.same("the head at 20000 times " + side + ", a clamp " + what, places, d.places(0));
    }

    /** "from the least to the greatest x and y of spindles that are there" */
    private static void frameOfSpindlesThatAreThere() {
        int[][] ends = {{-50, 0}, {50, 0}, {0, -50}, {0, 50}};
        for (int[] end : ends) {
            DrillHeads d = new DrillHeads(2);
            d.spindle(0, 0, 0, 5);
            d.spindle(1, end[0], end[1], 0);
            Setup.holesAt(d, 0);
            int x = end[0] / 2;
            int y = end[1] / 2;
            d.clamp(x, y, x + 1, y + 1);
            String what = "the other spindle at " + end[0] + ", " + end[1];
            Due.same(what + " is not there", 1, d.places(0));
            d.spindle(1, end[0], end[1], 6);
            Due.same(what + " is there, of another width", 0, d.places(0));
            d.spindle(1, end[0], end[1], 0);
            Due.same(what + " was taken away", 1, d.places(0));
            d.spindle(1, end[0], end[1], 1);
            Due.same(what + " is there, of the least width", 0, d.places(0));
            d.spindle(1, 0, 0, 6);
            Due.same(what + " is at the place of the first", 1, d.places(0));
        }
    }

    /** "SINGLE are holes that no HIT which is not BARRED may drill." */
    private static void singleHoles() {
        DrillHeads none = new DrillHeads(16);
        Setup.holesOfDepths(none, 0, 0, 14);
        Due.same("no spindles: no hits", 0, none.run());
        for (int h = 0; h < 14; h++) {
            int hole = h;
            Due.answer("no spindles: hole " + h, 1, () -> Due.bit(none.single(hole)));
        }

        DrillHeads d = new DrillHeads(2);
        d.spindle(0, 0, 0, 5);
        d.spindle(1, 10, 0, 5);
        Setup.holesAt(d, 0);
        d.run();
        Due.no("two places", d.single(0));
        d.clamp(10, 0, 11, 1);
        d.run();
        Due.no("one of two places is barred", d.single(0));
        Setup.hitIs("the other place", d, 0, -10, 0, 0, 1);
        d.clamp(-11, 0, -10, 1);
        d.run();
        Due.yes("both places are barred", d.single(0));
        d.spindle(1, 10, 0, 0);
        d.run();
        Due.no("a lesser head is in no one's way", d.single(0));
        Due.same("one hit", 1, d.run());
    }

    /** "The others are drilled by the fewest HITS" */
    private static void fewestHits() {
        DrillHeads nothing = new DrillHeads(1);
        Due.same("no holes", 0, nothing.run());
        DrillHeads head = Setup.row(16);
        Due.same("a head, no holes", 0, head.run());

        Cover greed = new Cover();
        greed.place(-300, 0, 1, 2, 4, 5).place(0, 0, 1, 2, 3).place(300, 0, 4, 5, 6).holes(1, 2, 3, 4, 5, 6);
        Due.same("the most at once is not the fewest", 2, greed.drill.run());
        Setup.hitIs("greed", greed.drill, 0, 0, 0, 0, 0b000111);
        Setup.hitIs("greed", greed.drill, 1, 300, 0, 0, 0b111000);

        Cover late = new Cover();
        late.place(-300, 0, 1, 2).place(0, 0, 1, 3).place(100, 0, 2, 4).place(200, 0, 3, 5).place(300, 0, 5, 6);
        late.holes(1, 2, 3, 4, 5, 6);
        Due.same("the first place is wrong only two hits later", 3, late.drill.run());
        Setup.hitIs("late", late.drill, 0, 0, 0, 0, 0b000101);
        Setup.hitIs("late", late.drill, 1, 100, 0, 0, 0b001010);
        Setup.hitIs("late", late.drill, 2, 300, 0, 0, 0b110000);

        DrillHeads many = Setup.row(2);
        Setup.holesAt(many, 20, 10, 0, 30);
        for (int h = 0; h < 10; h++) {
            many.hole(0, 0, 5, 100 + h, 0);
        }
        Due.same("two pairs, and ten that go with no other", 12, many.run());
        Setup.hitIs("the first place is wrong with many hits too", many, 0, 20, 0, 0, 0b1001);
        Setup.hitIs("the other pair", many, 1, 0, 0, 0, 0b0110);

        DrillHeads most = Setup.row(1);
        Setup.holesOfDepths(most, 0, 0, 14);
        Due.same("fourteen at one place, none alike", 14, most.run());
        DrillHeads least = Setup.row(1);
        for (int h = 0; h < 14; h++) {
            Setup.holesAt(least, 0);
        }
        Due.same("fourteen at one place, all alike", 1, least.run());
        Setup.hitIs("all alike", least, 0, 0, 0, 0, 0x3fff);
    }

    /** "each HIT has the hole with the least number that is not drilled before" */
    private static void hitHasTheLeastHole() {
        Cover c = new Cover();
        c.place(50, 0, 2, 5).place(-50, 0, 3, 4).place(0, 0, 6).holes(1, 2, 3, 4, 5, 6);
        Due.same("three hits", 3, c.drill.run());
        Due.yes("the least hole of all is single", c.drill.single(0));
        Setup.hitIs("the least that is not single", c.drill, 0, 50, 0, 0, 0b010010);
        Setup.hitIs("the least that is left", c.drill, 1, -50, 0, 0, 0b001100);
        Setup.hitIs("the last", c.drill, 2, 0, 0, 0, 0b100000);

        DrillHeads faces = Setup.row(1);
        faces.hole(0, 0, 5, 12, 4);
        faces.hole(-100, 0, 5, 12, 0);
        faces.run();
        Setup.hitIs("neither the lesser face", faces, 0, 0, 0, 4, 1);
        Setup.hitIs("nor the lesser place comes first", faces, 1, -100, 0, 0, 2);
    }

    /** "its place is the first one (by X, then Y)" */
    private static void firstPlaceByXThenY() {
        int[][] placesAndFirst = {
            {5, 6, 5, 7, 5, 6}, {5, 7, 5, 6, 5, 6}, {5, 9, 6, 1, 5, 9}, {6, 1, 5, 9, 5, 9},
            {-1, 0, 0, -9, -1, 0}, {0, -1, 0, 0, 0, -1}, {0, 0, 0, 1, 0, 0}, {-2, 5, -1, -5, -2, 5},
            {-9990, 9, 9990, -9, -9990, 9}, {0, 9990, 0, -9990, 0, -9990},
        };
        for (int[] p : placesAndFirst) {
            Cover c = new Cover();
            c.place(p[0], p[1], 1).place(p[2], p[3], 1).holes(1);
            Due.same("one hit", 1, c.drill.run());
            Setup.hitIs("of two places", c.drill, 0, p[4], p[5], 0, 1);
        }

        DrillHeads d = new DrillHeads(16);
        for (int k = 0; k < 16; k++) {
            d.spindle(k, -(k * 7 % 16), k * 5 % 16, 5);
        }
        Setup.holesAt(d, 0);
        Due.same("sixteen places", 16, d.places(0));
        d.run();
        Setup.hitIs("the first of sixteen places", d, 0, 0, 0, 0, 1);
        d.spindle(0, 0, 0, 0);
        d.run();
        Setup.hitIs("the first of fifteen places", d, 0, 1, -3, 0, 1);
    }

    /** "the first one .. with which the fewest are enough": whichever of the places it is, however they were told. */
    private static void eachPlaceCanBeTheFirst() {
        int[][] places = {{30, -3}, {10, -1}, {40, 4}, {10, 7}, {20, 2}, {-5, 5}, {20, -2}};
        for (int[] enough : places) {
            Cover c = new Cover();
            for (int[] p : places) {
                c.place(p[0], p[1], 1);
            }
            c.place(enough[0], enough[1], 2).holes(1, 2);
            Due.same("seven places", 7, c.drill.places(0));
            Due.same("one place is enough for both", 1, c.drill.run());
            Setup.hitIs("the only one that is enough", c.drill, 0, enough[0], enough[1], 0, 3);
        }
    }

    /** "the first one .. with which the fewest are enough": not the one that drills the most. */
    private static void firstPlaceOfTheFewest() {
        DrillHeads d = Setup.row(2);
        Setup.holesAt(d, 10, 20, 30);
        Due.same("two hits", 2, d.run());
        Setup.hitIs("drills less, but comes first", d, 0, 0, 0, 0, 0b001);
        Setup.hitIs("the first place is not enough here", d, 1, 20, 0, 0, 0b110);

        Cover c = new Cover();
        c.place(-20, 0, 1).place(-10, 0, 1, 2).place(0, 0, 1, 2, 3).holes(1, 2, 3);
        Due.same("one hit is enough", 1, c.drill.run());
        Setup.hitIs("only the last place is enough", c.drill, 0, 0, 0, 0, 0b111);
        c.holes(4);
        c.place(10, 0, 4, 3);
        Due.same("two hits are needed", 2, c.drill.run());
        Setup.hitIs("the place between is enough now", c.drill, 0, -10, 0, 0, 0b0011);
        Setup.hitIs("the rest", c.drill, 1, 10, 0, 0, 0b1100);
        c.place(10, 0, 2);
        Due.same("two hits are needed still", 2, c.drill.run());
        Setup.hitIs("the first place is enough now", c.drill, 0, -20, 0, 0, 0b0001);
        Setup.hitIs("all the rest", c.drill, 1, 10, 0, 0, 0b1110);
    }

    /** "it drills all holes it may that were not drilled before" */
    private static void hitDrillsWhatWasNotDrilled() {
        Cover c = new Cover();
        c.place(0, 0, 1, 2, 4).place(10, 0, 2, 3, 4, 5).holes(1, 2, 3, 4, 5);
        Due.same("two hits", 2, c.drill.run());
        Setup.hitIs("all it may", c.drill, 0, 0, 0, 0, 0b01011);
        Setup.hitIs("what was drilled before is left out", c.drill, 1, 10, 0, 0, 0b10100);
        for (int h = 0; h < 5; h++) {
            boolean first = h == 0 || h == 1 || h == 3;
            Due.same("by the first hit: " + h, Due.bit(first), Due.bit(c.drill.drills(0, h)));
            Due.same("by the second hit: " + h, Due.bit(!first), Due.bit(c.drill.drills(1, h)));
        }
    }

    /** "HITS in an order, from 0, 0 to the first one's place, from place to place: .. along x and along y" */
    private static void wayStartsAtZero() {
        DrillHeads d = Setup.row(1);
        d.run();
        Due.same("no hits, no way", 0, d.travel());
        Setup.holesAt(d, 0);
        d.run();
        Due.same("a hit at 0, 0", 0, d.travel());
        int[][] signs = {{3, 4}, {-3, 4}, {3, -4}, {-3, -4}, {7, 0}, {0, -7}};
        for (int[] s : signs) {
            DrillHeads one = Setup.row(1);
            one.hole(s[0], s[1], 5, 12, 0);
            one.run();
            Due.same("to " + s[0] + ", " + s[1] + " and not back", 7, one.travel());
        }
        DrillHeads three = Setup.row(1);
        three.hole(-5, 5, 5, 12, 0);
        three.hole(5, -5, 5, 12, 0);
        three.hole(6, -7, 5, 12, 0);
        three.run();
        Setup.orderIs("over both corners", three, 0, 1, 2);
        Due.same("over both corners", 10 + 20 + 3, three.travel());
    }

    /** "With ten HITS or fewer THE ORDER is that of the shortest WAY" */
    private static void shortestWithTenHits() {
        for (int hits = 0; hits <= 10; hits++) {
            DrillHeads d = Setup.row(1);
            int[] order = new int[hits];
            for (int k = 0; k < hits; k++) {
                Setup.holesAt(d, 100 * (hits - k));
                order[k] = hits - 1 - k;
            }
            Due.same("hits", hits, d.run());
            Setup.orderIs(hits + " hits from far to near", d, order);
            Due.same(hits + " hits: the way", 100 * hits, d.travel());
            Due.yes(hits + " hits: known to be the shortest", d.least());
        }
    }

    /** "THE ORDER is that of the shortest WAY": it may go away from the nearest hit first. */
    private static void nearestIsNotShortest() {
        DrillHeads x = Setup.row(1);
        Setup.holesAt(x, 1, -3, 9, 30, 50, 70, 90, 110, 130, 150);
        x.run();
        Setup.orderIs("along x", x, 1, 0, 2, 3, 4, 5, 6, 7, 8, 9);
        Due.same("along x", 3 + 153, x.travel());
        DrillHeads y = Setup.row(1);
        for (int at : new int[] {1, -3, 9}) {
            y.hole(0, at, 5, 12, 0);
        }
        y.run();
        Setup.orderIs("along y", y, 1, 0, 2);
        Due.same("along y", 3 + 12, y.travel());
    }

    /** The same two sentences, with places here and there: all orders are tried, by the hits' numbers. */
    private static void shortestOfAllOrders() {
        for (int hits = 1; hits <= 10; hits++) {
            for (int spread : new int[] {2, 5, 97}) {
                int[] xs = new int[hits];
                int[] ys = new int[hits];
                DrillHeads d = Setup.row(1);
                for (int k = 0; k < hits; k++) {
                    xs[k] = (k * k * 31 + k * 17 + hits) % spread - spread / 3;
                    ys[k] = (k * k * 13 + k * 29 + hits * 7) % spread - spread / 2;
                    d.hole(xs[k], ys[k], 5, 1 + k, 0);
                }
                d.run();
                Orders orders = new Orders(xs, ys);
                Setup.orderIs(hits + " hits within " + spread, d, orders.best);
                Due.same(hits + " hits within " + spread + ": the way", orders.bestWay, d.travel());
            }
        }
    }

    /** Tries orders by the hits' numbers and keeps the first of the shortest. */
    private static final class Orders {
        final int[] best;
        int bestWay = Setup.MAX;
        private final int[] xs;
        private final int[] ys;
        private final int[] begun;

        Orders(int[] xs, int[] ys) {
            this.xs = xs;
            this.ys = ys;
            best = new int[xs.length];
            begun = new int[xs.length];
            tryFrom(0, 0, 0, 0, 0);
        }

        private void tryFrom(int done, int gone, int x, int y, int way) {
            if (way >= bestWay) {
                return;
            }
            if (done == xs.length) {
                System.arraycopy(begun, 0, best, 0, done);
                bestWay = way;
                return;
            }
            for (int k = 0; k < xs.length; k++) {
                if ((gone >> k & 1) == 0) {
                    begun[done] = k;
                    int step = Math.abs(xs[k] - x) + Math.abs(ys[k] - y);
                    tryFrom(done + 1, gone | 1 << k, xs[k], ys[k], way + step);
                }
            }
        }
    }

    /** "of several the first by the hits' numbers, from the first one on" */
    private static void firstOfSeveralShortest() {
        DrillHeads one = Setup.row(1);
        Setup.holesOfDepths(one, 0, 0, 10);
        one.run();
        Setup.orderIs("ten at 0, 0", one, 0, 1, 2, 3, 4, 5, 6, 7, 8, 9);
        Due.same("ten at 0, 0: the way", 0, one.travel());

        DrillHeads far = Setup.row(1);
        Setup.holesOfDepths(far, 10000, -10000, 9);
        far.hole(1, 0, 5, 12, 0);
        far.run();
        Setup.orderIs("nine at one place, the last one nearer", far, 9, 0, 1, 2, 3, 4, 5, 6, 7, 8);

        DrillHeads sides = Setup.row(1);
        Setup.holesAt(sides, -10, 10);
        sides.run();
        Setup.orderIs("to either side, the first told first", sides, 0, 1);

        DrillHeads square = Setup.row(1);
        square.hole(10, 10, 5, 12, 0);
        square.hole(0, 10, 5, 12, 0);
        square.hole(10, 0, 5, 12, 0);
        square.run();
        Setup.orderIs("round a square either way", square, 1, 0, 2);

        DrillHeads last = Setup.row(1);
        last.hole(100, 0, 5, 12, 0);
        last.hole(105, 5, 5, 12, 0);
        last.hole(110, 0, 5, 12, 0);
        last.hole(50, 0, 5, 12, 0);
        last.hole(105, 5, 5, 13, 0);
        last.run();
        Setup.orderIs("two at one place on the way", last, 3, 0, 1, 4, 2);
    }

    /** "of more their own" */
    private static void ownOrderWithMoreHits() {
        for (int hits = 11; hits <= 14; hits++) {
            DrillHeads d = Setup.row(1);
            int[] order = new int[hits];
            for (int k = 0; k < hits; k++) {
                Setup.holesAt(d, 100 * (hits - k));
                order[k] = k;
            }
            Due.same("hits", hits, d.run());
            Setup.orderIs(hits + " hits from far to near", d, order);
            Due.same(hits + " hits: the way", 100 * hits + 100 * (hits - 1), d.travel());
            Due.no(hits + " hits: not known to be the shortest", d.least());
        }
    }

    /** "With ten HITS or fewer ..; of more their own": on one object, from one to the other and back. */
    private static void ownOrderAfterAnother() {
        DrillHeads d = Setup.row(1);
        Setup.holesAt(d, 100, 90, 80, 70, 60, 50, 40, 30, 20, 10);
        d.run();
        Setup.orderIs("ten", d, 9, 8, 7, 6, 5, 4, 3, 2, 1, 0);
        Setup.holesAt(d, 0);
        d.run();
        Setup.orderIs("eleven", d, 0, 1, 2, 3, 4, 5, 6, 7, 8, 9, 10);
        Due.same("eleven: the way", 100 + 100, d.travel());
        d.clamp(100, 0, 101, 1);
        d.run();
        Setup.orderIs("ten again, one is single", d, 9, 8, 7, 6, 5, 4, 3, 2, 1, 0);
        Due.same("ten again: the way", 90, d.travel());
    }

    /** "THE ORDER is that of the shortest WAY": after plans of more hits and of fewer, on one object. */
    private static void shortestAfterOtherPlans() {
        int[] holesOfWidth = {0, 2, 4, 8};
        int[] atX = {37, -12, 5, 0, 8, 21, -30, 33, 4, -9, 16, -2, 11, 40};
        int[] atY = {3, 14, -15, 9, 26, -5, 35, -8, 9, 7, -9, 3, 23, 8};
        DrillHeads d = new DrillHeads(1);
        int told = 0;
        for (int width = 1; width <= 3; width++) {
            for (int h = 0; h < holesOfWidth[width]; h++) {
                d.hole(atX[told], atY[told], width, 12, 0);
                told++;
            }
        }
        for (int width : new int[] {3, 1, 2, 1, 3, 2, 3}) {
            int from = width == 1 ? 0 : width == 2 ? 2 : 6;
            int to = from + holesOfWidth[width];
            Orders orders = new Orders(Arrays.copyOfRange(atX, from, to), Arrays.copyOfRange(atY, from, to));
            d.spindle(0, 0, 0, width);
            Due.same("hits of width " + width, holesOfWidth[width], d.run());
            Setup.orderIs("hits of width " + width, d, orders.best);
            Due.same("hits of width " + width + ": the way", orders.bestWay, d.travel());
        }
    }

    private interface Tell {
        long on(DrillHeads d);
    }

    /** "it was not PLANNED since something was told (.. mirror() of some does)" */
    private static void tellsSomething() {
        tells("spindle: another x", d -> Due.bit(d.spindle(0, 1, 0, 5)));
        tells("spindle: another y", d -> Due.bit(d.spindle(0, 0, 1, 5)));
        tells("spindle: another width", d -> Due.bit(d.spindle(0, 0, 0, 6)));
        tells("spindle: taken away", d -> Due.bit(d.spindle(0, 0, 0, 0)));
        tells("spindle: one that drills nothing", d -> Due.bit(d.spindle(1, 0, 0, 100)));
        tells("hole", d -> d.hole(0, 0, 5, 12, 0));
        tells("hole: a single one", d -> d.hole(0, 0, 99, 12, 0));
        tells("through", d -> Due.bit(d.through(0, true)));
        tells("clamp", d -> Due.bit(d.clamp(900, 900, 901, 901)));
        tells("clamp: one without an inside", d -> Due.bit(d.clamp(0, 0, 0, 0)));
        tells("mirror x", d -> d.mirror(0));
        tells("mirror y, where all stays", d -> d.mirror(1));
    }

    private static DrillHeads plannedWithFiveClamps() {
        DrillHeads d = new DrillHeads(2);
        d.spindle(0, 0, 0, 5);
        Setup.holesAt(d, 7);
        for (int c = 0; c < 5; c++) {
            d.clamp(900, 900, 901, 901);
        }
        d.run();
        return d;
    }

    private static void tells(String what, Tell tell) {
        DrillHeads d = plannedWithFiveClamps();
        Due.answer(what + ": planned before", 7, () -> d.travel());
        tell.on(d);
        Due.noState(what + ": hit", () -> d.hit(0, 0));
        Due.noState(what + ": drills", () -> Due.bit(d.drills(0, 0)));
        Due.noState(what + ": by", () -> d.by(0));
        Due.noState(what + ": single", () -> Due.bit(d.single(0)));
        Due.noState(what + ": order", () -> d.order(0));
        Due.noState(what + ": travel", () -> d.travel());
        Due.noState(what + ": least", () -> Due.bit(d.least()));
        Due.noState(what + ": bound", () -> d.bound());
        Due.noState(what + ": seconds", () -> d.seconds());
        d.run();
        Due.answer(what + ": planned again", 1, () -> Due.bit(d.least()));
    }

    /** "(what answers false, and mirror() without holes, tells nothing ..)" */
    private static void tellsNothing() {
        DrillHeads d = plannedWithFiveClamps();
        d.clamp(0, 5, 0, 5);
        d.run();
        stillPlanned("spindle as it is", d, Due.bit(d.spindle(0, 0, 0, 5)));
        stillPlanned("a spindle that is not there, as it is", d, Due.bit(d.spindle(1, 0, 0, 0)));
        stillPlanned("through as it is", d, Due.bit(d.through(0, false)));
        stillPlanned("a seventh clamp", d, Due.bit(d.clamp(-20000, -20000, 20000, 20000)));
        d.through(0, true);
        d.run();
        stillPlanned("through as it is now", d, Due.bit(d.through(0, true)));
        d.places(0);
        stillPlanned("places", d, 0);

        DrillHeads empty = new DrillHeads(1);
        empty.run();
        Due.same("mirror without holes", 0, empty.mirror(0));
        Due.answer("still planned", 0, () -> empty.travel());
        Due.same("mirror without holes", 0, empty.mirror(1));
        Due.answer("still planned", 0, () -> empty.travel());

        DrillHeads never = new DrillHeads(1);
        never.mirror(0);
        never.spindle(0, 0, 0, 0);
        Due.noState("what tells nothing plans nothing", () -> never.travel());
    }

    private static void stillPlanned(String what, DrillHeads d, long answer) {
        Due.same(what + " answers false", 0, answer);
        Due.answer(what + ": the way is known", 7, () -> d.travel());
        Due.answer(what + ": the hit is known", 7, () -> d.hit(0, 0));
        Due.answer(what + ": the spindle is known", 0, () -> d.by(0));
    }

    private DrillHeadsTerms() {
    }
}
