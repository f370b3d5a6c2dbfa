/**
 * The promises, sentence by sentence: above each test stands the sentence that it is for, and the test has the last
 * numbers that are allowed. The first ones that are not are in DrillHeadsRefusals, the terms in DrillHeadsTerms.
 */
public final class DrillHeadsEdges {
    public static void main(String[] args) {
        nearestOfOneToSixteen();
        spindleOfTheLastNumbers();
        somethingIsAnotherOne();
        spindleNotThere();
        holeOfTheLastNumbers();
        roomForFourteenHoles();
        throughOrNot();
        clampOfTheLastNumbers();
        roomForSixClamps();
        mirrorBecomesZeroMinusIt();
        mirrorOfHowManyThereAre();
        mirrorLeavesTheRest();
        runAgain();
        hitOfEachKind();
        drillsFirstAndLast();
        byTheLeastSpindle();
        singleOrNot();
        orderHasEachHitOnce();
        longestWays();
        leastUpToTen();
        boundIsRoundedUp();
        boundWithoutEither();
        differentPlaces();
        placesNeedNoPlan();
        secondsAreCutOff();
        secondsOfHitsAndSingles();
        Due.end();
    }

    /** Promise 1: "So many SPINDLES: the nearest of 1 .. 16." */
    private static void nearestOfOneToSixteen() {
        for (int told : new int[] {Setup.MIN, -16, -1, 0, 1}) {
            DrillHeads d = new DrillHeads(told);
            Due.answer(told + ": spindle 0", 1, () -> Due.bit(d.spindle(0, 1, 0, 5)));
            Due.noIndex(told + ": spindle 1", () -> Due.bit(d.spindle(1, 0, 0, 5)));
            Setup.holesAt(d, 1, 2);
            Due.same(told + ": hits", 2, d.run());
        }
        for (int told = 2; told < 16; told++) {
            int spindles = told;
            DrillHeads d = new DrillHeads(told);
            Due.answer(told + ": the last spindle", 1, () -> Due.bit(d.spindle(spindles - 1, 1, 0, 5)));
            Due.noIndex(told + ": a spindle more", () -> Due.bit(d.spindle(spindles, 0, 0, 5)));
        }
        for (int told : new int[] {16, 17, 32, Setup.MAX}) {
            DrillHeads d = new DrillHeads(told);
            Due.answer(told + ": spindle 15", 1, () -> Due.bit(d.spindle(15, 1, 0, 5)));
            Due.noIndex(told + ": spindle 16", () -> Due.bit(d.spindle(16, 0, 0, 5)));
            Setup.holesAt(d, 1, 2);
            Due.same(told + ": hits", 2, d.run());
        }
    }

    /** Promise 2: "a place is not -10000 .. 10000, or the WIDTH not 0 .. 100" */
    private static void spindleOfTheLastNumbers() {
        int[][] last = {
            {-10000, 0, 5}, {10000, 0, 5}, {0, -10000, 5}, {0, 10000, 5},
            {0, 0, 1}, {0, 0, 100}, {-10000, 10000, 100}, {10000, -10000, 1},
        };
        for (int[] s : last) {
            DrillHeads d = new DrillHeads(16);
            for (int k : new int[] {0, 15}) {
                String call = "spindle(" + k + ", " + s[0] + ", " + s[1] + ", " + s[2] + ")";
                Due.answer(call, 1, () -> Due.bit(d.spindle(k, s[0], s[1], s[2])));
                Due.answer(call + " again", 0, () -> Due.bit(d.spindle(k, s[0], s[1], s[2])));
            }
            d.hole(1, 2, s[2], 12, 0);
            Due.same("it drills", 1, d.run());
            Setup.hitIs("it drills", d, 0, 1 - s[0], 2 - s[1], 0, 1);
        }
        DrillHeads d = new DrillHeads(1);
        d.spindle(0, 0, 0, 5);
        Due.answer("the width 0", 1, () -> Due.bit(d.spindle(0, 0, 0, 0)));
        Due.answer("the width 0 at the farthest place", 1, () -> Due.bit(d.spindle(0, -10000, 10000, 0)));
    }

    /** Promise 2: "whether something is another one" */
    private static void somethingIsAnotherOne() {
        int[][] others = {
            {4, 4, 5}, {2, 4, 5}, {3, 3, 5}, {3, 5, 5}, {3, 4, 4}, {3, 4, 6}, {3, 4, 0}, {-3, -4, 5}, {4, 3, 5},
        };
        for (int[] o : others) {
            DrillHeads d = new DrillHeads(2);
            Due.yes("from nothing", d.spindle(1, 3, 4, 5));
            Due.no("nothing is another one", d.spindle(1, 3, 4, 5));
            String what = o[0] + ", " + o[1] + ", " + o[2];
            Due.yes("something is another one: " + what, d.spindle(1, o[0], o[1], o[2]));
            Due.no("it was taken: " + what, d.spindle(1, o[0], o[1], o[2]));
            Due.yes("and back from " + what, d.spindle(1, 3, 4, 5));
            Due.no("the other spindle stays: " + what, d.spindle(0, 0, 0, 0));
        }
    }

    /** Promise 2: "(0: it is not there)" */
    private static void spindleNotThere() {
        DrillHeads d = new DrillHeads(2);
        d.spindle(0, 0, 0, 5);
        Setup.holesAt(d, 0);
        Due.same("it drills", 1, d.run());
        Due.yes("taken away", d.spindle(0, 0, 0, 0));
        Due.no("taken away again", d.spindle(0, 0, 0, 0));
        Due.same("no place", 0, d.places(0));
        Due.same("no hit", 0, d.run());
        Due.same("it does not count", 0, d.bound());
        Due.yes("the place of what is not there is another one", d.spindle(0, 1, 0, 0));
        Due.no("that place again", d.spindle(0, 1, 0, 0));
        Due.yes("there again", d.spindle(0, 1, 0, 5));
        Due.same("it drills again", 1, d.run());
        Setup.hitIs("at its new place", d, 0, -1, 0, 0, 1);
    }

    /** Promise 3: "a place is not -10000 .. 10000, WIDTH not 1 .. 100, DEPTH not 1 .. 1000, or face not 0 .. 4" */
    private static void holeOfTheLastNumbers() {
        int[][] last = {
            {-10000, 0, 5, 12, 0}, {10000, 0, 5, 12, 0}, {0, -10000, 5, 12, 0}, {0, 10000, 5, 12, 0},
            {0, 0, 1, 12, 0}, {0, 0, 100, 12, 0}, {0, 0, 5, 1, 0}, {0, 0, 5, 1000, 0},
            {0, 0, 5, 12, 0}, {0, 0, 5, 12, 4}, {-10000, -10000, 1, 1, 0}, {10000, 10000, 100, 1000, 4},
        };
        for (int[] h : last) {
            DrillHeads d = new DrillHeads(1);
            d.spindle(0, 3, 4, h[2]);
            String call = "hole(" + h[0] + ", " + h[1] + ", " + h[2] + ", " + h[3] + ", " + h[4] + ")";
            Due.answer(call, 0, () -> d.hole(h[0], h[1], h[2], h[3], h[4]));
            Due.answer(call + " again", 1, () -> d.hole(h[0], h[1], h[2], h[3], h[4]));
            Due.same(call + ": one hit", 1, d.run());
            Setup.hitIs(call, d, 0, h[0] - 3, h[1] - 4, h[4], 3);
        }
    }

    /** Promise 3: "A hole more: its number. IllegalStateException: there are 14" */
    private static void roomForFourteenHoles() {
        DrillHeads d = Setup.row(1);
        for (int h = 0; h < 14; h++) {
            Due.same("how many there are", h, d.mirror(0));
            Due.same("its number", h, d.hole(h, 0, 5, 12, 0));
        }
        Due.noState("there are 14", () -> d.hole(14, 0, 5, 12, 0));
        Due.noState("there are 14, with wrong numbers too", () -> d.hole(10001, 0, 5, 12, 5));
        Due.same("there are still 14", 14, d.mirror(0));
        Due.same("fourteen hits", 14, d.run());
        Due.noState("there are 14, planned or not", () -> d.hole(14, 0, 5, 12, 0));
        Due.answer("no room tells nothing", 14, () -> d.run());
        Due.answer("the plan is still there", 13, () -> d.order(13));
    }

    /** Promise 4: "A hole goes THROUGH, or not: whether that is another thing than before." */
    private static void throughOrNot() {
        DrillHeads d = Setup.row(1);
        Due.noIndex("no hole yet", () -> Due.bit(d.through(0, true)));
        Due.noIndex("no hole yet, nothing another", () -> Due.bit(d.through(0, false)));
        Setup.holesOfDepths(d, 0, 0, 14);
        for (int h : new int[] {0, 13}) {
            Due.no("not at first", d.through(h, false));
            Due.yes("goes through", d.through(h, true));
            Due.no("as before", d.through(h, true));
            Due.yes("not any more", d.through(h, false));
            Due.no("as before again", d.through(h, false));
            Due.yes("goes through again", d.through(h, true));
        }
        Due.same("the first and the last are alike now", 13, d.run());
        Setup.hitIs("the first and the last", d, 0, 0, 0, 0, 0x2001);
        Due.no("the others stay", d.through(1, false));
    }

    /** Promise 5: "a number is not -20000 .. 20000, or x1 below x0, or y1 below y0" */
    private static void clampOfTheLastNumbers() {
        int[][] last = {
            {-20000, 0, 0, 0}, {0, -20000, 0, 0}, {0, 0, 20000, 0}, {0, 0, 0, 20000},
            {20000, 0, 20000, 0}, {0, 20000, 0, 20000}, {-20000, 0, -20000, 0}, {0, -20000, 0, -20000},
            {-20000, -20000, 20000, 20000}, {7, 8, 7, 8}, {7, 8, 8, 9}, {7, 8, 7, 9}, {7, 8, 8, 8}, {-8, -9, -7, -8},
        };
        for (int[] c : last) {
            DrillHeads d = Setup.row(1);
            String call = "clamp(" + c[0] + ", " + c[1] + ", " + c[2] + ", " + c[3] + ")";
            Due.answer(call, 1, () -> Due.bit(d.clamp(c[0], c[1], c[2], c[3])));
        }
        DrillHeads d = Setup.row(1);
        Setup.holesAt(d, 10000, -10000);
        d.hole(0, 10000, 5, 12, 0);
        d.hole(0, -10000, 5, 12, 0);
        d.clamp(-20000, -20000, 20000, 20000);
        Due.same("the greatest clamp bars everything", 0, d.run());
    }

    /** Promise 5: "A clamp more ..: whether there was room (6)" */
    private static void roomForSixClamps() {
        DrillHeads d = Setup.row(1);
        Setup.holesAt(d, 0, 10, 20, 30, 40, 50, 60);
        for (int c = 0; c < 6; c++) {
            Due.same("holes that are left", 7 - c, d.run());
            Due.yes("room for clamp " + c, d.clamp(10 * c, 0, 10 * c + 1, 1));
        }
        Due.same("one hole is left", 1, d.run());
        Due.no("no room for a seventh", d.clamp(60, 0, 61, 1));
        Due.no("nor for one without an inside", d.clamp(0, 0, 0, 0));
        Due.noArgument("nor for a wrong one", () -> Due.bit(d.clamp(0, 0, -1, 0)));
        Due.same("one hole is left still", 1, d.run());
        Setup.hitIs("the hole of the seventh", d, 0, 60, 0, 0, 1 << 6);

        DrillHeads same = Setup.row(1);
        for (int c = 0; c < 6; c++) {
            Due.yes("the very same clamp takes room as well", same.clamp(0, 0, 0, 0));
        }
        Due.no("no room for it any more", same.clamp(0, 0, 0, 0));
    }

    /** Promise 6: "All holes are mirrored: x (axis = 0) or y (1) becomes 0 - it" */
    private static void mirrorBecomesZeroMinusIt() {
        int[][] places = {{0, 0}, {1, 2}, {-1, -2}, {10000, -10000}, {-10000, 10000}};
        for (int[] p : places) {
            DrillHeads d = Setup.row(1);
            d.hole(p[0], p[1], 5, 12, 0);
            Due.same("mirror(0)", 1, d.mirror(0));
            d.run();
            Setup.hitIs("x mirrored", d, 0, -p[0], p[1], 0, 1);
            Due.same("mirror(1)", 1, d.mirror(1));
            d.run();
            Setup.hitIs("both mirrored", d, 0, -p[0], -p[1], 0, 1);
            d.mirror(0);
            d.run();
            Setup.hitIs("y mirrored", d, 0, p[0], -p[1], 0, 1);
            d.mirror(1);
            d.run();
            Setup.hitIs("as it was", d, 0, p[0], p[1], 0, 1);
        }
    }

    /** Promise 6: "how many there are": of them all, the first and the last too, and not of those to come. */
    private static void mirrorOfHowManyThereAre() {
        for (int holes = 0; holes <= 14; holes++) {
            DrillHeads d = Setup.row(1);
            for (int h = 0; h < holes; h++) {
                d.hole(1 + h, 0, 5, 12, 0);
            }
            Due.same(holes + " holes", holes, d.mirror(0));
            Due.same(holes + " holes, along y", holes, d.mirror(1));
            d.run();
            for (int h = 0; h < holes; h++) {
                Setup.hitIs(holes + " holes", d, h, -1 - h, 0, 0, 1 << h);
            }
        }
        DrillHeads later = Setup.row(1);
        Setup.holesAt(later, 3);
        later.mirror(0);
        Setup.holesAt(later, 3);
        later.run();
        Setup.hitIs("told before", later, 0, -3, 0, 0, 1);
        Setup.hitIs("told after", later, 1, 3, 0, 0, 2);
    }

    /** Promise 6: "All holes are mirrored": neither spindles nor clamps are, nor what else a hole has. */
    private static void mirrorLeavesTheRest() {
        DrillHeads d = new DrillHeads(1);
        d.spindle(0, 7, 9, 5);
        d.hole(100, 50, 5, 12, 3);
        d.through(0, true);
        d.clamp(-101, 49, -99, 51);
        d.mirror(0);
        Due.no("the spindle stays", d.spindle(0, 7, 9, 5));
        Due.no("it still goes through", d.through(0, true));
        Due.same("the clamp stays", 0, d.places(0));
        d.mirror(1);
        Due.same("away from the clamp", 1, d.places(0));
        d.run();
        Setup.hitIs("its face stays", d, 0, -107, -59, 3, 1);
    }

    /** Promise 7: "PLANNED: how many HITS." */
    private static void runAgain() {
        DrillHeads d = new DrillHeads(1);
        Due.same("nothing there yet", 0, d.run());
        Due.same("nothing there yet, again", 0, d.run());
        d.spindle(0, 0, 0, 5);
        for (int h = 1; h <= 14; h++) {
            Setup.holesAt(d, h);
            Due.same(h + " holes", h, d.run());
            Due.same(h + " holes, again", h, d.run());
        }
        d.spindle(0, 0, 0, 0);
        Due.same("fourteen single holes", 0, d.run());
        Due.noIndex("the hits of before are gone", () -> d.hit(0, 0));
        d.spindle(0, 0, 0, 5);
        Due.same("fourteen hits again", 14, d.run());
        Due.answer("the last of them", 13, () -> d.order(13));
    }

    /** Promise 8: "X (what = 0), Y (1), its face (2), the holes that it drills, as bits (3)" */
    private static void hitOfEachKind() {
        DrillHeads d = Setup.row(1);
        for (int h = 0; h < 14; h++) {
            d.hole(100 + h, -200 - h, 5, 1 + h, h % 5);
        }
        d.run();
        for (int k = 0; k < 14; k++) {
            Setup.hitIs("fourteen hits", d, k, 100 + k, -200 - k, k % 5, 1 << k);
        }
        Due.noIndex("hit 14", () -> d.hit(14, 0));
        Due.noArgument("what 4 of the last hit", () -> d.hit(13, 4));
    }

    /** Promise 9: "Whether a hit drills a hole." */
    private static void drillsFirstAndLast() {
        DrillHeads d = Setup.row(1);
        Setup.holesOfDepths(d, 0, 0, 13);
        d.hole(0, 0, 6, 1, 0);
        d.run();
        for (int k = 0; k < 13; k++) {
            for (int h : new int[] {0, k, 12}) {
                Due.same("drills(" + k + ", " + h + ")", Due.bit(k == h), Due.bit(d.drills(k, h)));
            }
            Due.no("no hit drills a single hole", d.drills(k, 13));
        }
        DrillHeads full = Setup.row(14);
        for (int h = 0; h < 14; h++) {
            Setup.holesAt(full, 10 * h);
        }
        full.run();
        for (int h = 0; h < 14; h++) {
            Due.yes("one hit drills all: " + h, full.drills(0, h));
        }
    }

    /** Promise 10: "The spindle (of several the least) that drills a hole in a plan; NONE if it is SINGLE." */
    private static void byTheLeastSpindle() {
        DrillHeads d = Setup.row(16);
        Setup.holesAt(d, 0, 150);
        d.hole(0, 0, 6, 12, 0);
        d.run();
        Due.same("the first spindle", 0, d.by(0));
        Due.same("the last spindle", 15, d.by(1));
        Due.same("a single hole", -1, d.by(2));
        for (int k = 0; k < 16; k++) {
            d.spindle(k, 40, 30, 5);
        }
        for (int k = 0; k < 16; k++) {
            d.run();
            Due.same("the least of several", k, d.by(0));
            d.spindle(k, 40, 30, k % 2 == 0 ? 0 : 7);
        }
        d.run();
        Due.same("none is left", DrillHeads.NONE, d.by(0));

        DrillHeads later = Setup.row(1);
        Setup.holesAt(later, 0, 10);
        later.run();
        Due.same("drilled by the second hit", 0, later.by(1));
        later.clamp(10, 0, 11, 1);
        later.run();
        Due.same("single in a later plan", -1, later.by(1));
        Due.same("the other one is not", 0, later.by(0));

        DrillHeads two = Setup.row(2);
        Setup.holesAt(two, 0);
        two.run();
        Setup.hitIs("at the first place", two, 0, -10, 0, 0, 1);
        Due.same("the spindle of the plan, not the least that could", 1, two.by(0));
    }

    /** Promise 11: "Whether a hole is SINGLE." */
    private static void singleOrNot() {
        DrillHeads d = Setup.row(1);
        for (int h = 0; h < 14; h++) {
            d.hole(h, 0, h % 13 == 0 ? 6 : 5, 12, 0);
        }
        d.run();
        for (int h = 0; h < 14; h++) {
            Due.same("single(" + h + ")", Due.bit(h == 0 || h == 13), Due.bit(d.single(h)));
        }
        d.spindle(0, 0, 0, 6);
        d.run();
        for (int h = 0; h < 14; h++) {
            Due.same("the other width: single(" + h + ")", Due.bit(h != 0 && h != 13), Due.bit(d.single(h)));
        }
    }

    /** Promise 12: "The hit that is the k-th in THE ORDER." */
    private static void orderHasEachHitOnce() {
        for (int hits = 0; hits <= 14; hits++) {
            DrillHeads d = Setup.row(1);
            for (int h = 0; h < hits; h++) {
                d.hole(h * 37 % 19 - 9, h * 23 % 17 - 8, 5, 12, 0);
            }
            d.run();
            int seen = 0;
            long way = 0;
            int x = 0;
            int y = 0;
            for (int k = 0; k < hits; k++) {
                int hit = d.order(k);
                seen |= 1 << hit;
                way += Math.abs(d.hit(hit, 0) - x) + Math.abs(d.hit(hit, 1) - y);
                x = d.hit(hit, 0);
                y = d.hit(hit, 1);
            }
            int after = hits;
            Due.same(hits + " hits: each once", (1 << hits) - 1, seen);
            Due.same(hits + " hits: the way in that order", way, d.travel());
            Due.noIndex(hits + " hits: order(-1)", () -> d.order(-1));
            Due.noIndex(hits + " hits: order(" + hits + ")", () -> d.order(after));
        }
    }

    /** Promise 13: "THE WAY in THE ORDER.": from the farthest place to the farthest one on the other side. */
    private static void longestWays() {
        DrillHeads d = new DrillHeads(2);
        d.spindle(0, -10000, -10000, 5);
        d.spindle(1, 10000, 10000, 6);
        for (int h = 0; h < 14; h++) {
            int side = h % 2 == 0 ? 10000 : -10000;
            d.hole(side, side, h % 2 == 0 ? 5 : 6, 1 + h, 0);
        }
        d.run();
        Setup.hitIs("one far place", d, 0, 20000, 20000, 0, 1);
        Setup.hitIs("the other far place", d, 13, -20000, -20000, 0, 1 << 13);
        Due.same("fourteen hits in their own order", 40000 + 13 * 80000, d.travel());
        Due.same("fourteen hits in seconds", 14 * 4 + (40000 + 13 * 80000) / 500, d.seconds());

        DrillHeads ten = new DrillHeads(2);
        ten.spindle(0, -10000, -10000, 5);
        ten.spindle(1, 10000, 10000, 6);
        for (int h = 0; h < 10; h++) {
            int side = h % 2 == 0 ? 10000 : -10000;
            ten.hole(side, side, h % 2 == 0 ? 5 : 6, 1 + h, 0);
        }
        ten.run();
        Due.same("ten hits, over each far place once", 40000 + 80000, ten.travel());
        Setup.orderIs("ten hits", ten, 0, 2, 4, 6, 8, 1, 3, 5, 7, 9);
    }

    /** Promise 14: "Whether THE ORDER is known to be the shortest: there are ten HITS or fewer." */
    private static void leastUpToTen() {
        for (int holes = 0; holes <= 14; holes++) {
            DrillHeads d = Setup.row(1);
            Setup.holesOfDepths(d, 0, 0, holes);
            d.run();
            Due.same(holes + " hits", Due.bit(holes <= 10), Due.bit(d.least()));
        }
        DrillHeads few = Setup.row(1);
        Setup.holesOfDepths(few, 0, 0, 14);
        for (int h = 0; h < 5; h++) {
            few.through(h, true);
        }
        Due.same("fourteen holes, ten hits", 10, few.run());
        Due.yes("hits count, not holes", few.least());
    }

    /** Promise 15: "the holes that are not SINGLE by the SPINDLES that are there, rounded up" */
    private static void boundIsRoundedUp() {
        int[][] holesSpindlesBound = {
            {1, 1, 1}, {1, 16, 1}, {2, 1, 2}, {2, 2, 1}, {3, 2, 2}, {4, 2, 2}, {5, 2, 3}, {13, 13, 1}, {14, 13, 2},
            {14, 14, 1}, {14, 15, 1}, {14, 16, 1}, {14, 1, 14}, {14, 2, 7}, {13, 2, 7}, {14, 5, 3}, {10, 5, 2},
            {11, 5, 3},
        };
        for (int[] b : holesSpindlesBound) {
            DrillHeads d = new DrillHeads(16);
            for (int k = 0; k < b[1]; k++) {
                d.spindle(15 - k, 0, 0, k == 0 ? 5 : 6);
            }
            Setup.holesOfDepths(d, 0, 0, b[0]);
            d.run();
            Due.same(b[0] + " holes by " + b[1] + " spindles", b[2], d.bound());
        }
        DrillHeads thin = new DrillHeads(2);
        thin.spindle(0, 0, 0, 1);
        thin.spindle(1, 50, 0, 100);
        thin.hole(0, 0, 1, 12, 0);
        thin.hole(1, 0, 1, 12, 0);
        thin.run();
        Due.same("spindles of the least and the greatest width count", 1, thin.bound());
        thin.spindle(0, 0, 0, 0);
        thin.spindle(1, 50, 0, 1);
        thin.run();
        Due.same("one that is not there does not", 2, thin.bound());

        DrillHeads single = Setup.row(2);
        Setup.holesAt(single, 0, 1, 2, 3);
        single.hole(0, 0, 6, 12, 0);
        single.run();
        Due.same("a single hole is left out", 2, single.bound());
        single.spindle(1, 0, 0, 6);
        single.run();
        Due.same("it is single no more", 3, single.bound());
    }

    /** Promise 15: "0 without either" */
    private static void boundWithoutEither() {
        DrillHeads d = new DrillHeads(16);
        d.run();
        Due.same("neither holes nor spindles", 0, d.bound());
        Setup.holesAt(d, 0);
        d.run();
        Due.same("no spindles", 0, d.bound());
        d.spindle(15, 0, 0, 6);
        d.run();
        Due.same("only a single hole", 0, d.bound());
        DrillHeads head = Setup.row(16);
        head.run();
        Due.same("no holes", 0, head.bound());
    }

    /** Promise 16: "How many different places a head could have to drill a hole, those that are BARRED left out." */
    private static void differentPlaces() {
        for (int n = 0; n <= 16; n++) {
            DrillHeads d = new DrillHeads(16);
            for (int k = 0; k < 16; k++) {
                d.spindle(k, k < n ? k : 0, k < n ? -k : 0, 5);
            }
            Setup.holesAt(d, 0);
            Due.same(n + " spindles at places of their own", Math.max(n, 1), d.places(0));
        }
        DrillHeads d = new DrillHeads(16);
        Setup.holesAt(d, 0);
        Due.same("no spindle is there", 0, d.places(0));
        for (int k = 0; k < 16; k++) {
            d.spindle(k, 10 * (k / 2), 10 * (k % 2), 5);
        }
        Due.same("two rows of eight", 16, d.places(0));
        d.clamp(-20000, -20000, -1, 20000);
        Due.same("all but those at X = 0 are barred", 2, d.places(0));
        d.clamp(-20000, -11, 20000, -10);
        Due.same("and one of these", 1, d.places(0));
        d.clamp(70, 9, 71, 10);
        Due.same("and the other", 0, d.places(0));

        DrillHeads one = Setup.row(1);
        one.hole(10000, -10000, 5, 1000, 4);
        Due.same("the farthest hole", 1, one.places(0));
        one.hole(10000, -10000, 6, 1000, 4);
        Due.same("another width", 0, one.places(1));
    }

    /** Promise 16 names no IllegalStateException: it is asked without a plan, and with one. */
    private static void placesNeedNoPlan() {
        DrillHeads d = Setup.row(2);
        Setup.holesAt(d, 0, 10);
        Due.answer("without a plan", 2, () -> d.places(1));
        d.run();
        Due.answer("with a plan", 2, () -> d.places(1));
        d.clamp(20, 0, 21, 1);
        Due.answer("of what is now, not of the plan", 1, () -> d.places(1));
        d.run();
        Due.same("the plan's hits", 1, d.run());
        int before = d.hit(0, 3);
        d.places(0);
        d.places(1);
        Due.answer("the plan stays", before, () -> d.hit(0, 3));
    }

    /** Promise 17: "THE WAY by 500 (cut off)" */
    private static void secondsAreCutOff() {
        int[][] wayAndSeconds = {
            {0, 0}, {1, 0}, {499, 0}, {500, 1}, {501, 1}, {999, 1}, {1000, 2}, {9999, 19}, {10000, 20},
        };
        for (int[] w : wayAndSeconds) {
            for (int side : new int[] {1, -1}) {
                DrillHeads d = Setup.row(1);
                Setup.holesAt(d, side * w[0]);
                d.run();
                Due.same("a way of " + w[0], 4 + w[1], d.seconds());
            }
        }
        DrillHeads two = Setup.row(1);
        Setup.holesAt(two, 499, -1);
        two.run();
        Due.same("the whole way is cut off, not each part", 501, two.travel());
        Due.same("the whole way in seconds", 8 + 1, two.seconds());
    }

    /** Promise 17: "4 for each hit, 12 for each SINGLE hole" */
    private static void secondsOfHitsAndSingles() {
        for (int hits = 0; hits <= 14; hits++) {
            DrillHeads d = Setup.row(1);
            Setup.holesOfDepths(d, 0, 0, hits);
            for (int h = hits; h < 14; h++) {
                d.hole(0, 0, 6, 12, 0);
            }
            d.run();
            Due.same(hits + " hits, the others single", 4 * hits + 12 * (14 - hits), d.seconds());
        }
        DrillHeads none = new DrillHeads(1);
        none.run();
        Due.same("nothing to do", 0, none.seconds());
        DrillHeads one = Setup.row(2);
        Setup.holesAt(one, 0, 10);
        one.run();
        Due.same("two holes in one hit", 4, one.seconds());
    }

    private DrillHeadsEdges() {
    }
}
