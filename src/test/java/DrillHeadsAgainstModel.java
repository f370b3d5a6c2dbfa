import java.util.ArrayList;
import java.util.List;
import java.util.Random;
import java.util.TreeSet;

/**
 * Many runs of calls, drawn with a fixed seed, on an object and on a slow model of the document beside it.
 * The model tries all hits for all sets, and all orders of the hits.
 */
public final class DrillHeadsAgainstModel {
    private static final int RUNS = 2000;

    public static void main(String[] args) {
        for (int run = 0; run < RUNS; run++) {
            new Run(run).go();
        }
        Due.end();
    }

    private record Place(int x, int y) implements Comparable<Place> {
        @Override
        public int compareTo(Place o) {
            return x != o.x ? Integer.compare(x, o.x) : Integer.compare(y, o.y);
        }

        int to(Place o) {
            return Math.abs(x - o.x) + Math.abs(y - o.y);
        }
    }

    private static final class Spindle {
        int x;
        int y;
        int width;
    }

    private static final class Hole {
        int x;
        int y;
        int width;
        int depth;
        int face;
        boolean through;

        boolean alike(Hole o) {
            return face == o.face && (through ? o.through : !o.through && depth == o.depth);
        }
    }

    private record Hit(Place place, int face, int holes) {
    }

    private static final class Model {
        final Spindle[] spindles;
        final List<Hole> holes = new ArrayList<>();
        final List<int[]> clamps = new ArrayList<>();
        List<Hit> hits;
        List<Integer> order;
        long travel;

        Model(int told) {
            spindles = new Spindle[told < 1 ? 1 : told > 16 ? 16 : told];
            for (int k = 0; k < spindles.length; k++) {
                spindles[k] = new Spindle();
            }
        }

        boolean spindle(int k, int x, int y, int w) {
            check(k, spindles.length);
            argument(Math.abs((long) x) <= 10000 && Math.abs((long) y) <= 10000 && w >= 0 && w <= 100);
            Spindle s = spindles[k];
            boolean same = s.x == x && s.y == y && s.width == w;
            if (!same) {
                s.x = x;
                s.y = y;
                s.width = w;
                hits = null;
            }
            return !same;
        }

        int hole(int x, int y, int w, int depth, int face) {
            if (holes.size() == 14) {
                throw new IllegalStateException();
            }
            argument(Math.abs((long) x) <= 10000 && Math.abs((long) y) <= 10000 && w >= 1 && w <= 100);
            argument(depth >= 1 && depth <= 1000 && face >= 0 && face <= 4);
            Hole h = new Hole();
            h.x = x;
            h.y = y;
            h.width = w;
            h.depth = depth;
            h.face = face;
            holes.add(h);
            hits = null;
            return holes.size() - 1;
        }

        boolean through(int hole, boolean on) {
            check(hole, holes.size());
            if (holes.get(hole).through == on) {
                return false;
            }
            holes.get(hole).through = on;
            hits = null;
            return true;
        }

        boolean clamp(int... c) {
            for (int n : c) {
                argument(Math.abs((long) n) <= 20000);
            }
            argument(c[0] <= c[2] && c[1] <= c[3]);
            if (clamps.size() == 6) {
                return false;
            }
            clamps.add(c);
            hits = null;
            return true;
        }

        int mirror(int axis) {
            argument(axis == 0 || axis == 1);
            for (Hole h : holes) {
                if (axis == 0) {
                    h.x = 0 - h.x;
                } else {
                    h.y = 0 - h.y;
                }
                hits = null;
            }
            return holes.size();
        }

        int run() {
            List<Hit> all = new ArrayList<>();
            for (int h = 0; h < holes.size(); h++) {
                for (Place p : placesOf(h)) {
                    all.add(new Hit(p, holes.get(h).face, drillable(h, p)));
                }
            }
            int sets = 1 << holes.size();
            int[] need = new int[sets];
            int drillable = 0;
            for (Hit hit : all) {
                drillable |= hit.holes;
            }
            for (int set = 1; set < sets; set++) {
                need[set] = 99;
                for (Hit hit : all) {
                    if ((hit.holes & set) != 0) {
                        need[set] = Math.min(need[set], 1 + need[set & ~hit.holes]);
                    }
                }
            }
            hits = new ArrayList<>();
            int left = drillable;
            while (left != 0) {
                int h = Integer.numberOfTrailingZeros(left);
                for (Place p : placesOf(h)) {
                    int holesThere = drillable(h, p);
                    if (need[left & ~holesThere] == need[left] - 1) {
                        hits.add(new Hit(p, holes.get(h).face, holesThere & left));
                        left &= ~holesThere;
                        break;
                    }
                }
            }
            findOrder();
            return hits.size();
        }

        int hit(int k, int what) {
            planned();
            check(k, hits.size());
            argument(what >= 0 && what <= 3);
            Hit hit = hits.get(k);
            return new int[] {hit.place.x, hit.place.y, hit.face, hit.holes}[what];
        }

        boolean drills(int k, int hole) {
            planned();
            check(k, hits.size());
            check(hole, holes.size());
            return (hits.get(k).holes >> hole & 1) == 1;
        }

        int by(int hole) {
            planned();
            check(hole, holes.size());
            for (Hit hit : hits) {
                if ((hit.holes >> hole & 1) == 1) {
                    return spindlesAt(hole, hit.place).get(0);
                }
            }
            return -1;
        }

        boolean single(int hole) {
            return by(hole) == -1;
        }

        int order(int k) {
            planned();
            check(k, hits.size());
            return order.get(k);
        }

        long travel() {
            planned();
            return travel;
        }

        boolean least() {
            planned();
            return hits.size() < 11;
        }

        int bound() {
            planned();
            int there = 0;
            for (Spindle s : spindles) {
                there += s.width > 0 ? 1 : 0;
            }
            int bound = 0;
            while (there > 0 && bound * there < holes.size() - singles()) {
                bound++;
            }
            return bound;
        }

        int places(int hole) {
            check(hole, holes.size());
            return placesOf(hole).size();
        }

        long seconds() {
            planned();
            return 4 * hits.size() + 12 * singles() + travel / 500;
        }

        private int singles() {
            int singles = 0;
            for (int h = 0; h < holes.size(); h++) {
                singles += single(h) ? 1 : 0;
            }
            return singles;
        }

        private TreeSet<Place> placesOf(int hole) {
            TreeSet<Place> places = new TreeSet<>();
            Hole h = holes.get(hole);
            for (Spindle s : spindles) {
                Place p = new Place(h.x - s.x, h.y - s.y);
                if (s.width == h.width && !barred(p)) {
                    places.add(p);
                }
            }
            return places;
        }

        private boolean barred(Place p) {
            int x0 = 99999;
            int y0 = 99999;
            int x1 = -99999;
            int y1 = -99999;
            for (Spindle s : spindles) {
                if (s.width > 0) {
                    x0 = Math.min(x0, p.x + s.x - 1);
                    y0 = Math.min(y0, p.y + s.y - 1);
                    x1 = Math.max(x1, p.x + s.x + 1);
                    y1 = Math.max(y1, p.y + s.y + 1);
                }
            }
            for (int[] c : clamps) {
                boolean inside = c[0] < c[2] && c[1] < c[3];
                boolean apart = c[2] <= x0 || c[0] >= x1 || c[3] <= y0 || c[1] >= y1;
                if (inside && !apart) {
                    return true;
                }
            }
            return false;
        }

        private int drillable(int hole, Place p) {
            int set = 0;
            for (int h = 0; h < holes.size(); h++) {
                if (holes.get(h).alike(holes.get(hole)) && !spindlesAt(h, p).isEmpty()) {
                    set |= 1 << h;
                }
            }
            return set;
        }

        private List<Integer> spindlesAt(int hole, Place p) {
            List<Integer> found = new ArrayList<>();
            Hole h = holes.get(hole);
            for (int k = 0; k < spindles.length; k++) {
                Spindle s = spindles[k];
                if (s.width == h.width && p.x + s.x == h.x && p.y + s.y == h.y) {
                    found.add(k);
                }
            }
            return found;
        }

        private void findOrder() {
            order = new ArrayList<>();
            if (hits.size() > 10) {
                Place at = new Place(0, 0);
                travel = 0;
                for (int k = 0; k < hits.size(); k++) {
                    order.add(k);
                    travel += at.to(hits.get(k).place);
                    at = hits.get(k).place;
                }
            } else {
                travel = Long.MAX_VALUE;
                tryOrders(new ArrayList<>(), new Place(0, 0), 0);
            }
        }

        /** Orders come by their hits' numbers, so the first of the shortest is the one to keep. */
        private void tryOrders(List<Integer> begun, Place at, long way) {
            if (way >= travel) {
                return;
            }
            if (begun.size() == hits.size()) {
                order = new ArrayList<>(begun);
                travel = way;
                return;
            }
            for (int k = 0; k < hits.size(); k++) {
                if (!begun.contains(k)) {
                    begun.add(k);
                    tryOrders(begun, hits.get(k).place, way + at.to(hits.get(k).place));
                    begun.remove(begun.size() - 1);
                }
            }
        }

        private void planned() {
            if (hits == null) {
                throw new IllegalStateException();
            }
        }

        private static void check(int index, int count) {
            if (index < 0 || index >= count) {
                throw new IndexOutOfBoundsException();
            }
        }

        private static void argument(boolean right) {
            if (!right) {
                throw new IllegalArgumentException();
            }
        }
    }

    private static final class Run {
        private final int number;
        private final Random random;
        private final DrillHeads drill;
        private final Model model;
        private final int step;
        private final int spreadX;
        private final int spreadY;
        private final int widths;
        private final int depths;
        private final int faces;

        Run(int number) {
            this.number = number;
            random = new Random(number);
            int spindles = random.nextInt(8) == 0 ? random.nextInt(24) - 4 : 1 + random.nextInt(8);
            drill = new DrillHeads(spindles);
            model = new Model(spindles);
            step = random.nextBoolean() ? 1 : 10;
            // Few widths, depths, faces and rows make hits of many holes, many of them many hits.
            spreadX = 1 + random.nextInt(7);
            spreadY = random.nextInt(3) * random.nextInt(3);
            widths = 1 + random.nextInt(3) * random.nextInt(2);
            depths = 1 + random.nextInt(3);
            faces = 1 + random.nextInt(5) * random.nextInt(2);
        }

        void go() {
            int told = 10 + random.nextInt(30);
            for (int i = 0; i < told; i++) {
                tell();
                if (random.nextInt(6) == 0) {
                    plan();
                    askAny();
                } else if (random.nextInt(6) == 0) {
                    askAny();
                }
            }
            plan();
            askAll();
        }

        private int atX() {
            return wrong() ? odd() : step * (random.nextInt(2 * spreadX + 1) - spreadX);
        }

        private int atY() {
            return wrong() ? odd() : step * (random.nextInt(2 * spreadY + 1) - spreadY);
        }

        private boolean wrong() {
            return random.nextInt(60) == 0;
        }

        private int odd() {
            int[] odd = {
                Integer.MIN_VALUE, -20001, -20000, -10001, -10000, -1, 0, 100, 101,
                1000, 1001, 10000, 10001, 20000, 20001, Integer.MAX_VALUE,
            };
            return odd[random.nextInt(odd.length)];
        }

        private int of(int from, int count) {
            return wrong() ? odd() : from + random.nextInt(count);
        }

        private int width() {
            return random.nextInt(8) == 0 ? 0 : of(1, widths);
        }

        private void tell() {
            switch (random.nextInt(14)) {
                case 0, 1, 2, 3 -> tellSpindle(of(0, model.spindles.length), atX(), atY(), width());
                case 4, 5, 6, 7, 8 -> tellHole(atX(), atY(), of(1, widths), of(1, depths), of(0, faces));
                case 9, 10, 11 -> tellThrough(of(0, 1 + model.holes.size()), random.nextInt(4) > 0);
                case 12 -> {
                    int x = 3 * atX();
                    int y = 3 * atY();
                    tellClamp(x, y, wrong() ? odd() : x + random.nextInt(3), wrong() ? odd() : y + random.nextInt(3));
                }
                default -> {
                    int axis = of(0, 2);
                    both("mirror(" + axis + ")", () -> drill.mirror(axis), () -> model.mirror(axis));
                }
            }
        }

        private void tellSpindle(int k, int x, int y, int w) {
            both("spindle(" + k + ", " + x + ", " + y + ", " + w + ")",
                    () -> Due.bit(drill.spindle(k, x, y, w)), () -> Due.bit(model.spindle(k, x, y, w)));
        }

        private void tellHole(int x, int y, int w, int depth, int face) {
            both("hole(" + x + ", " + y + ", " + w + ", " + depth + ", " + face + ")",
                    () -> drill.hole(x, y, w, depth, face), () -> model.hole(x, y, w, depth, face));
        }

        private void tellThrough(int hole, boolean on) {
            both("through(" + hole + ", " + on + ")",
                    () -> Due.bit(drill.through(hole, on)), () -> Due.bit(model.through(hole, on)));
        }

        private void tellClamp(int x0, int y0, int x1, int y1) {
            both("clamp(" + x0 + ", " + y0 + ", " + x1 + ", " + y1 + ")",
                    () -> Due.bit(drill.clamp(x0, y0, x1, y1)), () -> Due.bit(model.clamp(x0, y0, x1, y1)));
        }

        private void plan() {
            both("run()", () -> drill.run(), () -> model.run());
        }

        private void askAny() {
            int k = of(-1, 15);
            int h = of(-1, 15);
            int what = of(-1, 6);
            both("hit(" + k + ", " + what + ")", () -> drill.hit(k, what), () -> model.hit(k, what));
            both("drills(" + k + ", " + h + ")",
                    () -> Due.bit(drill.drills(k, h)), () -> Due.bit(model.drills(k, h)));
            both("order(" + k + ")", () -> drill.order(k), () -> model.order(k));
            askHole(h);
            askPlan();
        }

        private void askAll() {
            for (int k = 0; k <= model.hits.size(); k++) {
                int hit = k;
                for (int w = 0; w < 4; w++) {
                    int what = w;
                    both("hit(" + k + ", " + what + ")", () -> drill.hit(hit, what), () -> model.hit(hit, what));
                }
                both("order(" + k + ")", () -> drill.order(hit), () -> model.order(hit));
            }
            for (int h = 0; h <= model.holes.size(); h++) {
                askHole(h);
            }
            askPlan();
        }

        private void askHole(int h) {
            both("by(" + h + ")", () -> drill.by(h), () -> model.by(h));
            both("single(" + h + ")", () -> Due.bit(drill.single(h)), () -> Due.bit(model.single(h)));
            both("places(" + h + ")", () -> drill.places(h), () -> model.places(h));
        }

        private void askPlan() {
            both("travel()", () -> drill.travel(), () -> model.travel());
            both("least()", () -> Due.bit(drill.least()), () -> Due.bit(model.least()));
            both("bound()", () -> drill.bound(), () -> model.bound());
            both("seconds()", () -> drill.seconds(), () -> model.seconds());
        }

        private void both(String call, Due.Call got, Due.Call want) {
            Due.compare("run " + number + ": " + call, Due.outcome(want), Due.outcome(got));
        }
    }

    private DrillHeadsAgainstModel() {
    }
}
