/**
 * Plans how a head of spindles drills the holes of a part in as few hits as can be.
 * The document of the class numbers its promises; the words in capitals there are the names used here.
 */
public final class DrillHeads {
    public static final int NONE = -1;

    private static final int MAX_SPINDLES = 16;
    private static final int MAX_HOLES = 14;
    private static final int MAX_CLAMPS = 6;
    private static final int MAX_WIDTH = 100;
    private static final int MAX_DEPTH = 1000;
    private static final int LAST_FACE = 4;
    private static final int FARTHEST_PLACE = 10000;
    private static final int FARTHEST_CLAMP = 20000;
    private static final int MAX_HITS_FOR_SHORTEST = 10;
    private static final int SECONDS_OF_HIT = 4;
    private static final int SECONDS_OF_SINGLE = 12;
    private static final int WAY_IN_A_SECOND = 500;

    private final Head head;
    private final Part part;
    private final Clamps clamps;
    private final Places[] placesOfHole;
    private final Hits hits;
    private final Table table;
    private final Way way;
    private int singleHoles;
    private boolean planned;

    public DrillHeads(int spindles) {
        head = new Head(Math.max(1, Math.min(MAX_SPINDLES, spindles)));
        part = new Part();
        clamps = new Clamps();
        placesOfHole = new Places[MAX_HOLES];
        for (int h = 0; h < MAX_HOLES; h++) {
            placesOfHole[h] = new Places();
        }
        hits = new Hits();
        table = new Table();
        way = new Way();
    }

    public boolean spindle(int k, int x, int y, int diameter)
            throws IndexOutOfBoundsException, IllegalArgumentException {
        if (k < 0 || k >= head.width.length) {
            throw new IndexOutOfBoundsException("there is no such spindle");
        }
        requirePlace(x, y);
        requireWithin(diameter, 0, MAX_WIDTH);
        boolean changed = head.change(k, x, y, diameter);
        if (changed) {
            planned = false;
        }
        return changed;
    }

    public int hole(int x, int y, int diameter, int depth, int face)
            throws IllegalStateException, IllegalArgumentException {
        if (part.count >= MAX_HOLES) {
            throw new IllegalStateException("there is no room for a hole more");
        }
        requirePlace(x, y);
        requireWithin(diameter, 1, MAX_WIDTH);
        requireWithin(depth, 1, MAX_DEPTH);
        requireWithin(face, 0, LAST_FACE);
        planned = false;
        return part.add(x, y, diameter, depth, face);
    }

    public boolean through(int hole, boolean on) throws IndexOutOfBoundsException {
        requireHole(hole);
        if (part.goesThrough[hole] == on) {
            return false;
        }
        part.goesThrough[hole] = on;
        planned = false;
        return true;
    }

    public boolean clamp(int x0, int y0, int x1, int y1) throws IllegalArgumentException {
        requireWithin(x0, -FARTHEST_CLAMP, FARTHEST_CLAMP);
        requireWithin(y0, -FARTHEST_CLAMP, FARTHEST_CLAMP);
        requireWithin(x1, x0, FARTHEST_CLAMP);
        requireWithin(y1, y0, FARTHEST_CLAMP);
        if (clamps.count >= MAX_CLAMPS) {
            return false;
        }
        clamps.add(x0, y0, x1, y1);
        planned = false;
        return true;
    }

    public int mirror(int axis) throws IllegalArgumentException {
        requireWithin(axis, 0, 1);
        negate(axis == 0 ? part.x : part.y, part.count);
        if (part.count > 0) {
            planned = false;
        }
        return part.count;
    }

    public int run() {
        if (!planned) {
            findPlaces();
            planHits();
            way.find(hits);
            planned = true;
        }
        return hits.count;
    }

    public int hit(int k, int what)
            throws IllegalStateException, IndexOutOfBoundsException, IllegalArgumentException {
        requirePlanned();
        requireHit(k);
        switch (what) {
            case 0:
                return hits.x[k];
            case 1:
                return hits.y[k];
            case 2:
                return hits.face[k];
            case 3:
                return hits.holes[k];
            default:
                throw new IllegalArgumentException("a hit has nothing of that number");
        }
    }

    public boolean drills(int hit, int hole) throws IllegalStateException, IndexOutOfBoundsException {
        requirePlanned();
        requireHit(hit);
        requireHole(hole);
        return holds(hits.holes[hit], hole);
    }

    public int by(int hole) throws IllegalStateException, IndexOutOfBoundsException {
        requirePlanned();
        requireHole(hole);
        int k = hits.drilling(hole);
        if (k == NONE) {
            return NONE;
        }
        return part.spindleFor(hole, head, hits.x[k], hits.y[k]);
    }

    public boolean single(int hole) throws IllegalStateException, IndexOutOfBoundsException {
        requirePlanned();
        requireHole(hole);
        return holds(singleHoles, hole);
    }

    public int order(int k) throws IllegalStateException, IndexOutOfBoundsException {
        requirePlanned();
        requireHit(k);
        return way.sequence[k];
    }

    public long travel() throws IllegalStateException {
        requirePlanned();
        return way.length;
    }

    public boolean least() throws IllegalStateException {
        requirePlanned();
        return hits.count <= MAX_HITS_FOR_SHORTEST;
    }

    public int bound() throws IllegalStateException {
        requirePlanned();
        int spindles = head.countThere();
        if (spindles == 0) {
            return 0;
        }
        int holes = part.count - Integer.bitCount(singleHoles);
        return (holes + spindles - 1) / spindles;
    }

    public int places(int hole) throws IndexOutOfBoundsException {
        requireHole(hole);
        // A plan copies what it takes from these rows into its hits, so they may be filled again at any time.
        placesOfHole[hole].find(hole, part, head, clamps);
        return placesOfHole[hole].count;
    }

    public long seconds() throws IllegalStateException {
        requirePlanned();
        int singles = Integer.bitCount(singleHoles);
        return SECONDS_OF_HIT * hits.count + SECONDS_OF_SINGLE * singles + way.length / WAY_IN_A_SECOND;
    }

    private void findPlaces() {
        singleHoles = 0;
        for (int h = 0; h < part.count; h++) {
            placesOfHole[h].find(h, part, head, clamps);
            placesOfHole[h].findDrilled(h, part, head);
            if (placesOfHole[h].count == 0) {
                singleHoles |= 1 << h;
            }
        }
    }

    private void planHits() {
        int all = ((1 << part.count) - 1) & ~singleHoles;
        table.fill(placesOfHole, part.count, all);
        hits.count = 0;
        int left = all;
        for (int k = 0; k < MAX_HOLES && left != 0; k++) {
            int hole = leastOf(left);
            Places places = placesOfHole[hole];
            int place = table.firstBest(places, left);
            hits.add(places.x[place], places.y[place], part.face[hole], places.drilled[place] & left);
            left &= ~places.drilled[place];
        }
    }

    private void requirePlanned() {
        if (!planned) {
            throw new IllegalStateException("it was not planned since something was told");
        }
    }

    private void requireHole(int hole) {
        if (hole < 0 || hole >= part.count) {
            throw new IndexOutOfBoundsException("there is no such hole");
        }
    }

    private void requireHit(int k) {
        if (k < 0 || k >= hits.count) {
            throw new IndexOutOfBoundsException("there is no such hit");
        }
    }

    private static void requirePlace(int x, int y) {
        requireWithin(x, -FARTHEST_PLACE, FARTHEST_PLACE);
        requireWithin(y, -FARTHEST_PLACE, FARTHEST_PLACE);
    }

    private static void requireWithin(int number, int least, int greatest) {
        if (number < least || number > greatest) {
            throw new IllegalArgumentException("a number is out of its range");
        }
    }

    private static void negate(int[] numbers, int count) {
        for (int i = 0; i < count && i < numbers.length; i++) {
            numbers[i] = -numbers[i];
        }
    }

    private static boolean holds(int set, int number) {
        return (set >> number & 1) != 0;
    }

    private static int without(int set, int number) {
        return set & ~(1 << number);
    }

    private static int leastOf(int set) {
        return Integer.numberOfTrailingZeros(set);
    }

    /** The spindles, and the FRAME round those that are there. */
    private static final class Head {
        final int[] x;
        final int[] y;
        final int[] width;
        int frameX0;
        int frameY0;
        int frameX1;
        int frameY1;

        Head(int spindles) {
            x = new int[spindles];
            y = new int[spindles];
            width = new int[spindles];
        }

        boolean change(int k, int newX, int newY, int newWidth) {
            if (x[k] == newX && y[k] == newY && width[k] == newWidth) {
                return false;
            }
            x[k] = newX;
            y[k] = newY;
            width[k] = newWidth;
            measureFrame();
            return true;
        }

        int countThere() {
            int there = 0;
            for (int k = 0; k < width.length; k++) {
                if (width[k] > 0) {
                    there++;
                }
            }
            return there;
        }

        int spindleAt(int atX, int atY, int ofWidth) {
            for (int k = 0; k < width.length; k++) {
                if (x[k] == atX && y[k] == atY && width[k] == ofWidth) {
                    return k;
                }
            }
            return NONE;
        }

        private void measureFrame() {
            int x0 = FARTHEST_PLACE;
            int y0 = FARTHEST_PLACE;
            int x1 = -FARTHEST_PLACE;
            int y1 = -FARTHEST_PLACE;
            for (int k = 0; k < width.length; k++) {
                if (width[k] > 0) {
                    x0 = Math.min(x0, x[k]);
                    y0 = Math.min(y0, y[k]);
                    x1 = Math.max(x1, x[k]);
                    y1 = Math.max(y1, y[k]);
                }
            }
            // One wider on each side: so a head with all its spindles in a row still has an inside.
            frameX0 = x0 - 1;
            frameY0 = y0 - 1;
            frameX1 = x1 + 1;
            frameY1 = y1 + 1;
        }
    }

    /** The holes, numbered as they were told. */
    private static final class Part {
        final int[] x = new int[MAX_HOLES];
        final int[] y = new int[MAX_HOLES];
        final int[] width = new int[MAX_HOLES];
        final int[] depth = new int[MAX_HOLES];
        final int[] face = new int[MAX_HOLES];
        final boolean[] goesThrough = new boolean[MAX_HOLES];
        int count;

        /** Only called where there is room. */
        int add(int holeX, int holeY, int holeWidth, int holeDepth, int holeFace) {
            int h = count;
            x[h] = holeX;
            y[h] = holeY;
            width[h] = holeWidth;
            depth[h] = holeDepth;
            face[h] = holeFace;
            count++;
            return h;
        }

        boolean alike(int a, int b) {
            if (face[a] != face[b] || goesThrough[a] != goesThrough[b]) {
                return false;
            }
            return goesThrough[a] || depth[a] == depth[b];
        }

        /** The least spindle that meets a hole when the head is at a place, or NONE. */
        int spindleFor(int h, Head head, int headX, int headY) {
            return head.spindleAt(x[h] - headX, y[h] - headY, width[h]);
        }
    }

    /** The clamps, which lie on all faces. */
    private static final class Clamps {
        final int[] x0 = new int[MAX_CLAMPS];
        final int[] y0 = new int[MAX_CLAMPS];
        final int[] x1 = new int[MAX_CLAMPS];
        final int[] y1 = new int[MAX_CLAMPS];
        int count;

        /** Only called where there is room. */
        void add(int newX0, int newY0, int newX1, int newY1) {
            x0[count] = newX0;
            y0[count] = newY0;
            x1[count] = newX1;
            y1[count] = newY1;
            count++;
        }

        boolean bar(Head head, int headX, int headY) {
            for (int c = 0; c < count; c++) {
                if (overlap(x0[c], x1[c], headX + head.frameX0, headX + head.frameX1)
                        && overlap(y0[c], y1[c], headY + head.frameY0, headY + head.frameY1)) {
                    return true;
                }
            }
            return false;
        }

        /** Whether the two have some length in common: one without a length has none, wherever it lies. */
        private static boolean overlap(int from, int to, int otherFrom, int otherTo) {
            return Math.max(from, otherFrom) < Math.min(to, otherTo);
        }
    }

    /** The places, none of them BARRED, at which the head can drill one hole: by X, then Y, each once. */
    private static final class Places {
        final int[] x = new int[MAX_SPINDLES];
        final int[] y = new int[MAX_SPINDLES];
        final int[] drilled = new int[MAX_SPINDLES];
        int count;

        void find(int hole, Part part, Head head, Clamps clamps) {
            count = 0;
            for (int k = 0; k < head.width.length; k++) {
                if (head.width[k] == part.width[hole]) {
                    int headX = part.x[hole] - head.x[k];
                    int headY = part.y[hole] - head.y[k];
                    if (!clamps.bar(head, headX, headY)) {
                        insert(headX, headY);
                    }
                }
            }
        }

        /**
         * What a hit at each place may drill, as bits. Holes below this one are left out:
         * a hit has the least hole that is not drilled before, so they are drilled or SINGLE then.
         */
        void findDrilled(int hole, Part part, Head head) {
            for (int p = 0; p < count; p++) {
                drilled[p] = 0;
                for (int h = hole; h < part.count; h++) {
                    if (part.alike(hole, h) && part.spindleFor(h, head, x[p], y[p]) != NONE) {
                        drilled[p] |= 1 << h;
                    }
                }
            }
        }

        private void insert(int newX, int newY) {
            int at = 0;
            while (at < count && (x[at] < newX || x[at] == newX && y[at] < newY)) {
                at++;
            }
            boolean known = at < count && x[at] == newX && y[at] == newY;
            if (known || count >= MAX_SPINDLES) {
                return;
            }
            for (int p = count; p > at; p--) {
                x[p] = x[p - 1];
                y[p] = y[p - 1];
            }
            x[at] = newX;
            y[at] = newY;
            count++;
        }
    }

    /** The hits of a plan; each drills at least one hole. */
    private static final class Hits {
        final int[] x = new int[MAX_HOLES];
        final int[] y = new int[MAX_HOLES];
        final int[] face = new int[MAX_HOLES];
        final int[] holes = new int[MAX_HOLES];
        int count;

        void add(int hitX, int hitY, int hitFace, int hitHoles) {
            if (count >= MAX_HOLES) {
                return;
            }
            x[count] = hitX;
            y[count] = hitY;
            face[count] = hitFace;
            holes[count] = hitHoles;
            count++;
        }

        int drilling(int hole) {
            for (int k = 0; k < count; k++) {
                if (holds(holes[k], hole)) {
                    return k;
                }
            }
            return NONE;
        }
    }

    /** For each set of holes that hits can leave undrilled: the fewest hits that drill it. */
    private static final class Table {
        private static final int OUT_OF_REACH = 0;
        private static final int REACHED = -1;

        // Grows with the holes: most objects have few, and a full table is the dearest thing that one holds.
        private int[] fewest = new int[1];

        void fill(Places[] placesOfHole, int holes, int all) {
            if (fewest.length < 1 << holes) {
                fewest = new int[1 << holes];
            }
            markReached(placesOfHole, all);
            fewest[0] = 0;
            for (int set = 1; set <= all; set++) {
                if (fewest[set] == REACHED) {
                    fewest[set] = 1 + fewestAfterHit(placesOfHole[leastOf(set)], set);
                }
            }
        }

        /** The first of the places with which the fewest hits are enough for a set. */
        int firstBest(Places places, int set) {
            int least = fewestAfterHit(places, set);
            for (int p = 0; p < places.count; p++) {
                if (fewest[set & ~places.drilled[p]] == least) {
                    return p;
                }
            }
            return 0;
        }

        private void markReached(Places[] placesOfHole, int all) {
            for (int set = 0; set < all; set++) {
                fewest[set] = OUT_OF_REACH;
            }
            fewest[all] = REACHED;
            // What a hit leaves is a lesser number than the set it was made in, so one way down finds all.
            for (int set = all; set > 0; set--) {
                if (fewest[set] == REACHED) {
                    Places places = placesOfHole[leastOf(set)];
                    for (int p = 0; p < places.count; p++) {
                        fewest[set & ~places.drilled[p]] = REACHED;
                    }
                }
            }
        }

        private int fewestAfterHit(Places places, int set) {
            int least = MAX_HOLES;
            for (int p = 0; p < places.count; p++) {
                least = Math.min(least, fewest[set & ~places.drilled[p]]);
            }
            return least;
        }
    }

    /** THE ORDER of the hits, and how long THE WAY is in it. */
    private static final class Way {
        final int[] sequence = new int[MAX_HOLES];
        long length;

        // At [set * hits.count + k]: the shortest way from hit k on through all hits of the set.
        private int[] shortest = new int[0];

        void find(Hits hits) {
            if (hits.count <= MAX_HITS_FOR_SHORTEST) {
                fillShortest(hits);
                takeShortest(hits);
            } else {
                takeOwnOrder(hits);
            }
            measure(hits);
        }

        private void fillShortest(Hits hits) {
            int sets = 1 << hits.count;
            if (shortest.length < sets * hits.count) {
                shortest = new int[sets * hits.count];
            }
            for (int set = 0; set < sets; set++) {
                for (int k = 0; k < hits.count; k++) {
                    if (!holds(set, k)) {
                        int next = nextHit(hits, set, hits.x[k], hits.y[k]);
                        int rest = next == NONE ? 0 : wayOver(hits, next, set, hits.x[k], hits.y[k]);
                        shortest[set * hits.count + k] = rest;
                    }
                }
            }
        }

        private void takeShortest(Hits hits) {
            int left = (1 << hits.count) - 1;
            int x = 0;
            int y = 0;
            for (int i = 0; i < hits.count; i++) {
                int next = nextHit(hits, left, x, y);
                if (next == NONE) {
                    return;
                }
                sequence[i] = next;
                left = without(left, next);
                x = hits.x[next];
                y = hits.y[next];
            }
        }

        private void takeOwnOrder(Hits hits) {
            for (int i = 0; i < hits.count; i++) {
                sequence[i] = i;
            }
        }

        private void measure(Hits hits) {
            length = 0;
            int x = 0;
            int y = 0;
            for (int i = 0; i < hits.count; i++) {
                int k = sequence[i];
                length += distance(hits, k, x, y);
                x = hits.x[k];
                y = hits.y[k];
            }
        }

        /** The hit to go to first, of several the least, on a shortest way through a set; NONE if it is empty. */
        private int nextHit(Hits hits, int set, int fromX, int fromY) {
            int best = NONE;
            int bestWay = 0;
            for (int k = 0; k < hits.count; k++) {
                if (holds(set, k)) {
                    int over = wayOver(hits, k, set, fromX, fromY);
                    if (best == NONE || over < bestWay) {
                        best = k;
                        bestWay = over;
                    }
                }
            }
            return best;
        }

        private int wayOver(Hits hits, int k, int set, int fromX, int fromY) {
            return distance(hits, k, fromX, fromY) + shortest[without(set, k) * hits.count + k];
        }

        private static int distance(Hits hits, int k, int fromX, int fromY) {
            return Math.abs(hits.x[k] - fromX) + Math.abs(hits.y[k] - fromY);
        }
    }
}
