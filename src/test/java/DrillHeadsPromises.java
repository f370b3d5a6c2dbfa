/** Each promise of the document by itself: ordinary inputs, the edges it names, and wrong inputs. */
public final class DrillHeadsPromises {
    private static final int MIN = Setup.MIN;
    private static final int MAX = Setup.MAX;

    public static void main(String[] args) {
        promise1NewObject();
        promise2Spindle();
        promise2WrongInputs();
        promise3Hole();
        promise3WrongInputs();
        promise4Through();
        promise5Clamp();
        promise5WrongInputs();
        promise5WhatIsBarred();
        promise6Mirror();
        promise7FewestHits();
        promise7Kinds();
        promise7FirstPlace();
        promise8Hit();
        promise9Drills();
        promise10By();
        promise11Single();
        promise12Order();
        promise13Travel();
        promise14Least();
        promise15Bound();
        promise16Places();
        promise17Seconds();
        notPlannedAtFirst();
        whatTellsNothing();
        Due.end();
    }

    private static void promise1NewObject() {
        int[][] toldAndThere = {
            {MIN, 1}, {-1, 1}, {0, 1}, {1, 1}, {2, 2}, {7, 7}, {15, 15}, {16, 16}, {17, 16}, {MAX, 16},
        };
        for (int[] pair : toldAndThere) {
            DrillHeads d = new DrillHeads(pair[0]);
            String name = "new DrillHeads(" + pair[0] + ")";
            Due.answer(name + ": the last spindle", 1, () -> Due.bit(d.spindle(pair[1] - 1, 0, 0, 5)));
            Due.noIndex(name + ": a spindle more", () -> Due.bit(d.spindle(pair[1], 0, 0, 5)));
        }
        DrillHeads empty = new DrillHeads(3);
        Due.same("no hits of a new object", 0, empty.run());
        Due.same("no spindle is there at first", 0, empty.bound());
        empty.hole(0, 0, 5, 12, 0);
        Due.same("no spindle drills at first", 0, empty.places(0));
        Due.same("NONE", -1, DrillHeads.NONE);
    }

    private static void promise2Spindle() {
        DrillHeads d = new DrillHeads(2);
        Due.no("a spindle that is not there stays so", d.spindle(0, 0, 0, 0));
        Due.yes("the place of one that is not there", d.spindle(0, 3, 4, 0));
        Due.yes("another width", d.spindle(0, 3, 4, 5));
        Due.no("the same again", d.spindle(0, 3, 4, 5));
        Due.yes("another x", d.spindle(0, 2, 4, 5));
        Due.yes("another y", d.spindle(0, 2, 5, 5));
        Due.yes("not there any more", d.spindle(0, 2, 5, 0));
        Due.yes("the least numbers", d.spindle(1, -10000, -10000, 1));
        Due.yes("the greatest numbers", d.spindle(1, 10000, 10000, 100));

        d.hole(20, 30, 100, 12, 0);
        Due.same("a hit for the spindle", 1, d.run());
        Setup.hitIs("far spindle", d, 0, -9980, -9970, 0, 1);
        d.spindle(1, 10000, 10000, 0);
        Due.same("a spindle that was taken away drills nothing", 0, d.run());
    }

    private static void promise2WrongInputs() {
        DrillHeads d = Setup.row(2);
        Setup.holesAt(d, 0, 10);
        d.run();
        Due.noIndex("spindle -1", () -> Due.bit(d.spindle(-1, 0, 0, 5)));
        Due.noIndex("spindle 2 of 2", () -> Due.bit(d.spindle(2, 0, 0, 5)));
        Due.noIndex("the greatest spindle", () -> Due.bit(d.spindle(MAX, 0, 0, 5)));
        Due.noIndex("the index before the numbers", () -> Due.bit(d.spindle(2, 10001, 0, 101)));
        int[][] wrong = {
            {-10001, 0, 5}, {10001, 0, 5}, {0, -10001, 5}, {0, 10001, 5}, {0, 0, -1}, {0, 0, 101},
            {MIN, 0, 5}, {0, MAX, 5}, {0, 0, MIN},
        };
        for (int[] w : wrong) {
            Due.noArgument("spindle(0, " + w[0] + ", " + w[1] + ", " + w[2] + ")",
                    () -> Due.bit(d.spindle(0, w[0], w[1], w[2])));
        }
        Due.answer("what throws tells nothing", 1, () -> Due.bit(d.drills(0, 0)));
        Due.no("what throws changes nothing", d.spindle(0, 0, 0, 5));
    }

    private static void promise3Hole() {
        DrillHeads d = new DrillHeads(1);
        for (int h = 0; h < 14; h++) {
            int number = h;
            Due.answer("hole " + h, h, () -> d.hole(number, 0, 5, 12, 0));
        }
        Due.noState("a fifteenth hole", () -> d.hole(0, 0, 5, 12, 0));
        Due.noState("no room before wrong numbers", () -> d.hole(10001, 0, 0, 0, 5));
        DrillHeads edges = new DrillHeads(1);
        Due.answer("the least numbers", 0, () -> edges.hole(-10000, -10000, 1, 1, 0));
        Due.answer("the greatest numbers", 1, () -> edges.hole(10000, 10000, 100, 1000, 4));
        edges.spindle(0, -10000, -10000, 100);
        Due.same("only the hole of the spindle's width", 1, edges.run());
        Setup.hitIs("far hole", edges, 0, 20000, 20000, 4, 2);
        Due.same("the longest step", 40000, edges.travel());
    }

    private static void promise3WrongInputs() {
        DrillHeads d = Setup.row(1);
        Setup.holesAt(d, 0);
        d.run();
        int[][] wrong = {
            {-10001, 0, 5, 12, 0}, {10001, 0, 5, 12, 0}, {0, -10001, 5, 12, 0}, {0, 10001, 5, 12, 0},
            {0, 0, 0, 12, 0}, {0, 0, 101, 12, 0}, {0, 0, 5, 0, 0}, {0, 0, 5, 1001, 0},
            {0, 0, 5, 12, -1}, {0, 0, 5, 12, 5}, {MIN, 0, 5, 12, 0}, {0, 0, MAX, 12, 0},
        };
        for (int[] w : wrong) {
            Due.noArgument("hole(" + w[0] + ", " + w[1] + ", " + w[2] + ", " + w[3] + ", " + w[4] + ")",
                    () -> d.hole(w[0], w[1], w[2], w[3], w[4]));
        }
        Due.answer("what throws tells nothing", 1, () -> Due.bit(d.drills(0, 0)));
        Due.answer("what throws takes no number", 1, () -> d.hole(1, 0, 5, 12, 0));
    }

    private static void promise4Through() {
        DrillHeads d = Setup.row(2);
        d.hole(0, 0, 5, 12, 0);
        d.hole(10, 0, 5, 13, 0);
        Due.no("not through at first", d.through(0, false));
        Due.same("two depths, two hits", 2, d.run());
        Due.yes("goes through", d.through(0, true));
        Due.no("goes through again", d.through(0, true));
        Due.same("through and not through, two hits", 2, d.run());
        Due.yes("the other one too", d.through(1, true));
        Due.same("both through, one hit whatever the depth", 1, d.run());
        Due.yes("not through any more", d.through(0, false));
        Due.same("two hits again", 2, d.run());
        Due.noIndex("hole -1", () -> Due.bit(d.through(-1, true)));
        Due.noIndex("hole 2 of 2", () -> Due.bit(d.through(2, true)));
        Due.noIndex("no change is no excuse", () -> Due.bit(d.through(14, false)));
        Due.noIndex("far holes", () -> Due.bit(d.through(MAX, true)));
        Due.answer("what throws tells nothing", 1, () -> Due.bit(d.drills(0, 0)));
    }

    private static void promise5Clamp() {
        DrillHeads d = Setup.row(1);
        Setup.holesAt(d, 0, 100);
        for (int c = 0; c < 5; c++) {
            int y = 1000 + c;
            Due.yes("clamp " + c, d.clamp(0, y, 1, y + 1));
        }
        Due.same("clamps elsewhere bar nothing", 2, d.run());
        Due.yes("the sixth clamp", d.clamp(-20000, -20000, 50, 20000));
        Due.noState("a clamp is told", () -> d.by(0));
        Due.same("one hole is left", 1, d.run());
        Due.no("no room for a seventh", d.clamp(50, -20000, 20000, 20000));
        Due.answer("no room tells nothing", 1, () -> Due.bit(d.drills(0, 1)));
        Due.same("what has no room is not there", 1, d.places(1));
        Due.noArgument("wrong numbers without room", () -> Due.bit(d.clamp(1, 0, 0, 0)));
    }

    private static void promise5WrongInputs() {
        DrillHeads d = Setup.row(1);
        Setup.holesAt(d, 0);
        d.run();
        int[][] wrong = {
            {-20001, 0, 0, 0}, {20001, 0, 20001, 0}, {0, -20001, 0, 0}, {0, 20001, 0, 20001},
            {0, 0, 20001, 0}, {0, 0, 0, 20001}, {1, 0, 0, 0}, {0, 1, 0, 0}, {0, 0, MIN, 0}, {0, 0, 0, MIN},
            {MIN, MIN, MAX, MAX},
        };
        for (int[] w : wrong) {
            Due.noArgument("clamp(" + w[0] + ", " + w[1] + ", " + w[2] + ", " + w[3] + ")",
                    () -> Due.bit(d.clamp(w[0], w[1], w[2], w[3])));
        }
        Due.answer("what throws tells nothing", 1, () -> Due.bit(d.drills(0, 0)));
        for (int c = 0; c < 6; c++) {
            Due.yes("what throws takes no room", d.clamp(20000, -20000, 20000, 20000));
        }
    }

    private static void promise5WhatIsBarred() {
        // The head at the hole 0, 0 has its spindles in -1 .. 11 by -1 .. 1, the width of one on each side taken in.
        barred("touches on the left", 1, -5, -5, -1, 5);
        barred("one into the left", 0, -5, -5, 0, 5);
        barred("touches on the right", 1, 11, -5, 20, 5);
        barred("one into the right", 0, 10, -5, 20, 5);
        barred("touches below", 1, -5, -5, 20, -1);
        barred("one into the lower side", 0, -5, -5, 20, 0);
        barred("touches above", 1, -5, 1, 20, 5);
        barred("one into the upper side", 0, -5, 0, 20, 5);
        barred("touches a corner", 1, 11, 1, 20, 5);
        barred("all of it inside", 0, 4, 0, 5, 1);
        barred("a clamp that is a line along y", 1, 5, -5, 5, 5);
        barred("a clamp that is a line along x", 1, -5, 0, 20, 0);
        barred("a clamp that is a point", 1, 5, 0, 5, 0);

        DrillHeads faces = Setup.row(1);
        for (int f = 0; f < 5; f++) {
            faces.hole(0, 0, 5, 12, f);
        }
        faces.clamp(0, 0, 1, 1);
        Due.same("a clamp is on all faces", 0, faces.run());

        DrillHeads gone = Setup.row(2);
        Setup.holesAt(gone, 0);
        gone.clamp(9, 0, 20, 5);
        Due.same("the other place is barred as well", 1, gone.places(0));
        gone.spindle(1, 10, 0, 0);
        Due.same("only spindles that are there have a frame", 1, gone.places(0));
        gone.spindle(1, 10, 0, 7);
        Due.same("spindles of another width have one too", 0, gone.places(0));
    }

    private static void barred(String what, int places, int x0, int y0, int x1, int y1) {
        DrillHeads d = new DrillHeads(2);
        d.spindle(0, 0, 0, 5);
        d.spindle(1, 10, 0, 6);
        Setup.holesAt(d, 0);
        d.clamp(x0, y0, x1, y1);
        Due.same(what, places, d.places(0));
        Due.same(what + ", as a plan has it", places, d.run());
    }

    private static void promise6Mirror() {
        DrillHeads d = Setup.row(1);
        Due.same("nothing to mirror", 0, d.mirror(0));
        d.hole(3, 4, 5, 12, 0);
        d.hole(-10000, 10000, 5, 12, 0);
        Due.same("mirrored along x", 2, d.mirror(0));
        d.run();
        Setup.hitIs("x", d, 0, -3, 4, 0, 1);
        Setup.hitIs("x", d, 1, 10000, 10000, 0, 2);
        Due.same("mirrored along y", 2, d.mirror(1));
        Due.noState("mirror tells", () -> d.by(0));
        d.run();
        Setup.hitIs("y", d, 0, -3, -4, 0, 1);
        Setup.hitIs("y", d, 1, 10000, -10000, 0, 2);
        Due.noArgument("axis -1", () -> d.mirror(-1));
        Due.noArgument("axis 2", () -> d.mirror(2));
        Due.answer("what throws tells nothing", 0, () -> d.by(0));

        DrillHeads empty = new DrillHeads(1);
        empty.run();
        Due.same("no holes", 0, empty.mirror(1));
        Due.answer("mirror without holes tells nothing", 0, () -> empty.travel());
        Due.noArgument("a wrong axis without holes", () -> empty.mirror(2));

        DrillHeads middle = Setup.row(1);
        Setup.holesAt(middle, 0);
        middle.run();
        middle.mirror(1);
        Due.noState("mirror tells even where all stays", () -> middle.by(0));

        DrillHeads clamped = Setup.row(1);
        Setup.holesAt(clamped, 50);
        clamped.clamp(-51, -1, -49, 1);
        Due.same("before", 1, clamped.places(0));
        clamped.mirror(0);
        Due.same("clamps and spindles are not mirrored", 0, clamped.places(0));
    }

    private static void promise7FewestHits() {
        DrillHeads pairs = Setup.row(2);
        // The first place for hole 0 takes hole 1 with it, and leaves 2 and 3 too far apart.
        Setup.holesAt(pairs, 20, 10, 0, 30);
        Due.same("two pairs", 2, pairs.run());
        Setup.hitIs("pairs", pairs, 0, 20, 0, 0, 0b1001);
        Setup.hitIs("pairs", pairs, 1, 0, 0, 0, 0b0110);
        Due.same("run again", 2, pairs.run());

        DrillHeads full = Setup.row(14);
        Setup.holesAt(full, 0, 10, 20, 30, 40, 50, 60, 70, 80, 90, 100, 110, 120, 130);
        Due.same("fourteen at once", 1, full.run());
        Setup.hitIs("full", full, 0, 0, 0, 0, (1 << 14) - 1);

        DrillHeads alone = Setup.row(1);
        Setup.holesAt(alone, 0, 1, 2, 3, 4, 5, 6, 7, 8, 9, 10, 11, 12, 13);
        Due.same("fourteen, one by one", 14, alone.run());

        DrillHeads stacked = Setup.row(1);
        Setup.holesAt(stacked, 6, 6);
        Due.same("two holes at one place, one hit", 1, stacked.run());
        Setup.hitIs("stacked", stacked, 0, 6, 0, 0, 3);

        DrillHeads twice = Setup.row(2);
        // Hole 2 can only be drilled at a place that hits hole 0 again, or one farther right.
        Setup.holesAt(twice, 10, 0, 20);
        Due.same("a hit over a drilled hole", 2, twice.run());
        Setup.hitIs("twice", twice, 0, 0, 0, 0, 0b011);
        Setup.hitIs("twice", twice, 1, 10, 0, 0, 0b100);

        DrillHeads ahead = Setup.row(2);
        Setup.holesAt(ahead, 10, 30, 20);
        ahead.clamp(-1, 0, 0, 1);
        Due.same("a hit over a drilled hole of a greater number", 2, ahead.run());
        Setup.hitIs("ahead", ahead, 0, 10, 0, 0, 0b101);
        Setup.hitIs("ahead", ahead, 1, 20, 0, 0, 0b010);
        Due.no("what was drilled before is not drilled again", ahead.drills(1, 2));
    }

    private static void promise7Kinds() {
        DrillHeads d = Setup.row(2);
        d.hole(0, 0, 5, 12, 0);
        d.hole(10, 0, 5, 12, 1);
        d.hole(10, 0, 5, 11, 0);
        d.hole(10, 0, 6, 12, 0);
        d.hole(10, 1, 5, 12, 0);
        Due.same("another face, depth, width, place: none of them together", 4, d.run());
        Due.answer("a width without a spindle", 1, () -> Due.bit(d.single(3)));
        d.hole(10, 0, 5, 12, 0);
        Due.same("one that is alike goes with the first", 4, d.run());
        Setup.hitIs("kinds", d, 0, 0, 0, 0, 0b100001);

        DrillHeads faces = Setup.row(2);
        faces.hole(0, 0, 5, 12, 2);
        faces.hole(10, 0, 5, 12, 3);
        faces.through(0, true);
        faces.through(1, true);
        Due.same("through on two faces: two hits", 2, faces.run());

        DrillHeads widths = new DrillHeads(2);
        widths.spindle(0, 0, 0, 5);
        widths.spindle(1, 10, 20, 6);
        widths.hole(100, 100, 5, 12, 4);
        widths.hole(110, 120, 6, 12, 4);
        Due.same("two widths at once", 1, widths.run());
        Setup.hitIs("widths", widths, 0, 100, 100, 4, 3);
    }

    private static void promise7FirstPlace() {
        DrillHeads d = new DrillHeads(3);
        d.spindle(0, 0, 0, 5);
        d.spindle(1, 10, 0, 5);
        d.spindle(2, 10, 10, 5);
        Setup.holesAt(d, 0);
        d.run();
        Setup.hitIs("the least X, then the least Y", d, 0, -10, -10, 0, 1);
        d.clamp(-11, -11, -10, -10);
        d.run();
        Setup.hitIs("the next Y", d, 0, -10, 0, 0, 1);
        d.clamp(-11, 10, -10, 11);
        d.run();
        Setup.hitIs("the next X", d, 0, 0, 0, 0, 1);
        d.clamp(10, 10, 11, 11);
        Due.same("no place is left", 0, d.run());
    }

    private static void promise8Hit() {
        DrillHeads d = Setup.row(2);
        Due.noState("before a plan, wrong numbers too", () -> d.hit(9, 9));
        d.hole(3, 4, 5, 12, 2);
        d.hole(13, 4, 5, 12, 2);
        d.hole(13, 4, 5, 12, 1);
        d.run();
        Setup.hitIs("hit", d, 0, 3, 4, 2, 0b011);
        Setup.hitIs("hit", d, 1, 3, 4, 1, 0b100);
        Due.noIndex("hit -1", () -> d.hit(-1, 0));
        Due.noIndex("hit 2 of 2", () -> d.hit(2, 0));
        Due.noIndex("the greatest hit", () -> d.hit(MAX, 0));
        Due.noIndex("the index before the number", () -> d.hit(2, 4));
        Due.noArgument("what = -1", () -> d.hit(0, -1));
        Due.noArgument("what = 4", () -> d.hit(0, 4));
        d.hole(0, 0, 5, 12, 0);
        Due.noState("after a hole", () -> d.hit(0, 0));
    }

    private static void promise9Drills() {
        DrillHeads d = Setup.row(2);
        Due.noState("before a plan", () -> Due.bit(d.drills(-1, -1)));
        Setup.holesAt(d, 20, 10, 0, 30);
        d.run();
        int[] holes = {0b1001, 0b0110};
        for (int k = 0; k < 2; k++) {
            for (int h = 0; h < 4; h++) {
                Due.same("drills(" + k + ", " + h + ")", holes[k] >> h & 1, Due.bit(d.drills(k, h)));
            }
        }
        Due.noIndex("hit -1", () -> Due.bit(d.drills(-1, 0)));
        Due.noIndex("hit 2 of 2", () -> Due.bit(d.drills(2, 0)));
        Due.noIndex("hole -1", () -> Due.bit(d.drills(0, -1)));
        Due.noIndex("hole 4 of 4", () -> Due.bit(d.drills(0, 4)));
        Due.noIndex("hole 32", () -> Due.bit(d.drills(0, 32)));
    }

    private static void promise10By() {
        DrillHeads d = new DrillHeads(4);
        Due.noState("before a plan", () -> d.by(-1));
        d.spindle(0, 10, 0, 6);
        d.spindle(1, 0, 0, 5);
        d.spindle(2, 10, 0, 5);
        d.spindle(3, 10, 0, 5);
        Setup.holesAt(d, 10, 0, 20);
        d.hole(0, 0, 9, 12, 0);
        d.run();
        Due.same("the least of two spindles at one place", 2, d.by(0));
        Due.same("another one of the same hit", 1, d.by(1));
        Due.same("one of the next hit", 2, d.by(2));
        Due.same("a hole that is single", DrillHeads.NONE, d.by(3));
        Due.noIndex("hole -1", () -> d.by(-1));
        Due.noIndex("hole 4 of 4", () -> d.by(4));
        d.spindle(2, 10, 0, 0);
        Due.noState("after a spindle", () -> d.by(0));
        d.run();
        Due.same("the other spindle now", 3, d.by(0));
    }

    private static void promise11Single() {
        DrillHeads d = Setup.row(2);
        Due.noState("before a plan", () -> Due.bit(d.single(-1)));
        Setup.holesAt(d, 0, 1000);
        d.hole(0, 0, 6, 12, 0);
        d.clamp(980, -10, 1020, 10);
        d.run();
        Due.no("a hole that is drilled", d.single(0));
        Due.yes("a hole at a clamp", d.single(1));
        Due.yes("a hole without a spindle of its width", d.single(2));
        Due.noIndex("hole -1", () -> Due.bit(d.single(-1)));
        Due.noIndex("hole 3 of 3", () -> Due.bit(d.single(3)));
        Due.noIndex("hole 32", () -> Due.bit(d.single(32)));
        d.spindle(1, 10, 0, 6);
        d.run();
        Due.no("a spindle for it", d.single(2));
    }

    private static void promise12Order() {
        DrillHeads d = Setup.row(1);
        Due.noState("before a plan", () -> d.order(-1));
        Setup.holesAt(d, 30, 10, 20);
        d.run();
        Setup.orderIs("along a line", d, 1, 2, 0);
        Due.noIndex("order -1", () -> d.order(-1));
        Due.noIndex("order 3 of 3", () -> d.order(3));

        DrillHeads even = Setup.row(1);
        Setup.holesAt(even, 10, -10);
        even.run();
        Setup.orderIs("two ways as short", even, 0, 1);

        DrillHeads ring = Setup.row(1);
        ring.hole(10, 10, 5, 12, 0);
        ring.hole(-10, 10, 5, 12, 0);
        ring.hole(-10, -10, 5, 12, 0);
        ring.hole(10, -10, 5, 12, 0);
        ring.run();
        Setup.orderIs("of eight ways as short the first", ring, 0, 1, 2, 3);

        DrillHeads knot = Setup.row(1);
        // The nearest hit first is not the shortest way here: 1, then far left, then far right.
        Setup.holesAt(knot, 1, -3, 9);
        knot.run();
        Setup.orderIs("not the nearest first", knot, 1, 0, 2);

        DrillHeads face = Setup.row(1);
        face.hole(20, 0, 5, 12, 0);
        face.hole(10, 0, 5, 12, 4);
        face.run();
        Setup.orderIs("a face is no way", face, 1, 0);
    }

    private static void promise13Travel() {
        DrillHeads d = Setup.row(1);
        Due.noState("before a plan", () -> d.travel());
        d.run();
        Due.same("without hits", 0, d.travel());
        d.hole(3, -4, 5, 12, 0);
        d.run();
        Due.same("along x and along y, and not back", 7, d.travel());
        d.hole(-1, -4, 5, 12, 0);
        d.hole(6, -6, 5, 12, 0);
        d.run();
        Due.same("three hits", 5 + 4 + 5, d.travel());

        DrillHeads far = Setup.row(1);
        for (int h = 0; h < 14; h++) {
            int end = h % 2 == 0 ? 10000 : -10000;
            far.hole(end, end, 5, h + 1, 0);
        }
        far.run();
        Due.same("fourteen hits in their own order", 20000 + 13 * 40000, far.travel());
    }

    private static void promise14Least() {
        DrillHeads d = Setup.row(1);
        Due.noState("before a plan", () -> Due.bit(d.least()));
        d.run();
        Due.yes("without hits", d.least());
        Setup.holesAt(d, 90, 10, 80, 20, 70, 30, 60, 40, 50, 100);
        d.run();
        Due.yes("ten hits", d.least());
        Due.same("ten hits, the shortest way", 100, d.travel());
        Setup.orderIs("ten hits", d, 1, 3, 5, 7, 8, 6, 4, 2, 0, 9);
        Setup.holesAt(d, 0);
        d.run();
        Due.no("eleven hits", d.least());
        Setup.orderIs("eleven hits", d, 0, 1, 2, 3, 4, 5, 6, 7, 8, 9, 10);
        Due.same("eleven hits, their own order",
                90 + 80 + 70 + 60 + 50 + 40 + 30 + 20 + 10 + 50 + 100, d.travel());
        d.through(10, true);
        d.spindle(0, 0, 0, 0);
        d.run();
        Due.yes("single holes are no hits", d.least());
    }

    private static void promise15Bound() {
        DrillHeads d = new DrillHeads(16);
        Due.noState("before a plan", () -> d.bound());
        d.run();
        Due.same("without either", 0, d.bound());
        Setup.holesAt(d, 0, 1);
        d.run();
        Due.same("without spindles", 0, d.bound());
        d.spindle(0, 0, 0, 5);
        d.run();
        Due.same("two holes by one spindle", 2, d.bound());
        d.spindle(1, 100, 0, 6);
        d.run();
        Due.same("by two spindles, whatever their width", 1, d.bound());
        Setup.holesAt(d, 2);
        d.run();
        Due.same("three by two, rounded up", 2, d.bound());
        d.hole(0, 0, 9, 12, 0);
        d.hole(0, 0, 9, 12, 0);
        d.run();
        Due.same("single holes do not count", 2, d.bound());
        d.spindle(2, 0, 0, 9);
        d.run();
        Due.same("five by three", 2, d.bound());

        DrillHeads none = Setup.row(2);
        none.run();
        Due.same("without holes", 0, none.bound());
        none.hole(0, 0, 9, 12, 0);
        none.run();
        Due.same("single holes alone", 0, none.bound());

        DrillHeads stacked = Setup.row(1);
        Setup.holesAt(stacked, 6, 6);
        Due.same("two at one place: one hit", 1, stacked.run());
        Due.same("the bound does not know of it", 2, stacked.bound());
    }

    private static void promise16Places() {
        DrillHeads d = new DrillHeads(4);
        Due.noIndex("no hole", () -> d.places(0));
        Setup.holesAt(d, 0);
        Due.same("no spindle", 0, d.places(0));
        d.spindle(0, 0, 0, 5);
        d.spindle(1, 10, 0, 5);
        d.spindle(2, 10, 0, 5);
        d.spindle(3, 20, 0, 6);
        Due.same("different places, without a plan", 2, d.places(0));
        d.clamp(20, 0, 21, 1);
        Due.same("one is not barred", 1, d.places(0));
        d.clamp(-10, 0, -9, 1);
        Due.same("all are barred", 0, d.places(0));
        Due.noIndex("hole -1", () -> d.places(-1));
        Due.noIndex("hole 1 of 1", () -> d.places(1));
        Due.noState("places() is no plan", () -> d.travel());

        DrillHeads full = Setup.row(16);
        Setup.holesAt(full, 0, 10);
        Due.same("sixteen places", 16, full.places(1));
        full.run();
        Due.same("after a plan", 16, full.places(0));
        Due.answer("places() tells nothing", 1, () -> Due.bit(full.drills(0, 0)));
    }

    private static void promise17Seconds() {
        DrillHeads d = Setup.row(1);
        Due.noState("before a plan", () -> d.seconds());
        d.run();
        Due.same("nothing to do", 0, d.seconds());
        d.hole(499, 0, 5, 12, 0);
        d.run();
        Due.same("one hit, cut off", 4, d.seconds());
        d.hole(499, 1, 5, 12, 0);
        d.run();
        Due.same("two hits and a second", 9, d.seconds());
        d.hole(0, 0, 6, 12, 0);
        d.hole(0, 0, 7, 12, 0);
        d.run();
        Due.same("two single holes more", 33, d.seconds());
        d.hole(10000, 10000, 5, 12, 0);
        d.run();
        Due.same("far away", 12 + 24 + 40, d.seconds());
    }

    private static void notPlannedAtFirst() {
        DrillHeads d = new DrillHeads(1);
        planIsMissing("a new object", d);
        d.run();
        d.spindle(0, 1, 1, 5);
        planIsMissing("after spindle", d);
        d.run();
        Setup.holesAt(d, 0);
        planIsMissing("after hole", d);
        d.run();
        d.through(0, true);
        planIsMissing("after through", d);
        d.run();
        d.clamp(500, 500, 501, 501);
        planIsMissing("after clamp", d);
        d.run();
        d.mirror(0);
        planIsMissing("after mirror", d);
    }

    private static void planIsMissing(String when, DrillHeads d) {
        Due.noState(when + ": hit", () -> d.hit(0, 0));
        Due.noState(when + ": drills", () -> Due.bit(d.drills(0, 0)));
        Due.noState(when + ": by", () -> d.by(0));
        Due.noState(when + ": single", () -> Due.bit(d.single(0)));
        Due.noState(when + ": order", () -> d.order(0));
        Due.noState(when + ": travel", () -> d.travel());
        Due.noState(when + ": least", () -> Due.bit(d.least()));
        Due.noState(when + ": bound", () -> d.bound());
        Due.noState(when + ": seconds", () -> d.seconds());
    }

    private static void whatTellsNothing() {
        DrillHeads d = Setup.row(1);
        for (int c = 0; c < 6; c++) {
            d.clamp(500, 500, 501, 501);
        }
        Setup.holesAt(d, 7);
        d.run();
        d.spindle(0, 0, 0, 5);
        d.through(0, false);
        d.clamp(0, 0, 20, 20);
        d.places(0);
        Due.answer("false answers tell nothing", 7, () -> d.travel());
    }

    private DrillHeadsPromises() {
    }
}
