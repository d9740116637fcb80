import java.util.Arrays;
import java.util.NoSuchElementException;

/** A library for matchings between two sides: a largest matching is kept while edges come and go. */
public final class Phasehall {
    private static final int MOST_NODES = 12;
    private static final int NONE = -1;
    private static final int LEFT_HEAVY = 0;
    private static final int SQUARE = 1;
    private static final int RIGHT_HEAVY = 2;

    private final Graph graph;
    private final Matching kept;
    private final Search search;
    private final PhaseBuilder builder;
    private final Division division;
    private final MatchingCounter counter;

    /** Creates a library without nodes. */
    public Phasehall() {
        graph = new Graph();
        kept = new Matching();
        search = new Search();
        builder = new PhaseBuilder();
        division = new Division();
        counter = new MatchingCounter();
    }

    // ---- nodes and edges

    /** Adds a left node without edges and returns its number. */
    public int addLeft() throws IllegalStateException {
        if (graph.leftCount >= MOST_NODES) {
            throw new IllegalStateException("there are 12 left nodes");
        }
        int left = graph.leftCount;
        graph.leftCount = left + 1;
        return left;
    }

    /** Adds a right node without edges and returns its number. */
    public int addRight() throws IllegalStateException {
        if (graph.rightCount >= MOST_NODES) {
            throw new IllegalStateException("there are 12 right nodes");
        }
        int right = graph.rightCount;
        graph.rightCount = right + 1;
        return right;
    }

    /** Returns the number of left nodes. */
    public int lefts() {
        return graph.leftCount;
    }

    /** Returns the number of right nodes. */
    public int rights() {
        return graph.rightCount;
    }

    /** Returns the number of edges. */
    public int edges() {
        return graph.edgeCount;
    }

    /** Adds an edge; returns whether the kept matching has one more edge then. */
    public boolean connect(int left, int right) throws IndexOutOfBoundsException, IllegalStateException {
        requireBoth(left, right);
        if (graph.has(left, right)) {
            throw new IllegalStateException("there is this edge");
        }
        graph.add(left, right);
        return search.enlarge(graph, kept);
    }

    /** Removes an edge; returns whether the kept matching has one edge less then. */
    public boolean disconnect(int left, int right) throws IndexOutOfBoundsException, NoSuchElementException {
        requireEdge(left, right);
        graph.remove(left, right);
        if (kept.ofLeft[left] != right) {
            return false;
        }
        kept.separate(left, right);
        return !search.enlarge(graph, kept);
    }

    /** Returns whether there is an edge between the two nodes. */
    public boolean hasEdge(int left, int right) throws IndexOutOfBoundsException {
        requireBoth(left, right);
        return graph.has(left, right);
    }

    // ---- the kept matching

    /** Returns the number of edges of the kept matching. */
    public int size() {
        return kept.pairs;
    }

    /** Returns the partner of a left node in the kept matching. */
    public int partnerOfLeft(int left) throws IndexOutOfBoundsException, NoSuchElementException {
        requireLeft(left);
        int partner = kept.ofLeft[left];
        if (partner == NONE) {
            throw new NoSuchElementException("the left node is free");
        }
        return partner;
    }

    /** Returns the partner of a right node in the kept matching. */
    public int partnerOfRight(int right) throws IndexOutOfBoundsException, NoSuchElementException {
        requireRight(right);
        int partner = kept.ofRight[right];
        if (partner == NONE) {
            throw new NoSuchElementException("the right node is free");
        }
        return partner;
    }

    // ---- phases

    /** Returns how many phases there are; the kept matching does not change. */
    public int phases() {
        builder.build(graph);
        return builder.count;
    }

    /** Returns the depth of a phase, 0 being the first one. */
    public int depthOf(int phase) throws IndexOutOfBoundsException {
        builder.build(graph);
        requirePhase(phase);
        return builder.depths[phase];
    }

    /** Returns the number of paths of a phase, 0 being the first one. */
    public int pathsOf(int phase) throws IndexOutOfBoundsException {
        builder.build(graph);
        requirePhase(phase);
        return builder.paths[phase];
    }

    /** Replaces the kept matching by the one of the phases; returns how many left nodes it treats otherwise. */
    public int rebuild() {
        builder.build(graph);
        int changed = 0;
        for (int left = 0; left < graph.leftCount; left++) {
            if (kept.ofLeft[left] != builder.built.ofLeft[left]) {
                changed++;
            }
        }
        kept.become(builder.built);
        return changed;
    }

    // ---- parts

    /** Returns 0 for a left node of the left-heavy part, 1 for the square, 2 for the right-heavy part. */
    public int partOfLeft(int left) throws IndexOutOfBoundsException {
        requireLeft(left);
        division.divide(graph, kept);
        return division.leftPart(left);
    }

    /** Returns 0 for a right node of the left-heavy part, 1 for the square, 2 for the right-heavy part. */
    public int partOfRight(int right) throws IndexOutOfBoundsException {
        requireRight(right);
        division.divide(graph, kept);
        return division.rightPart(right);
    }

    /** Returns the number of fine parts. */
    public int fineParts() {
        division.divide(graph, kept);
        int count = 0;
        for (int left = 0; left < graph.leftCount; left++) {
            if (division.leftPart(left) == SQUARE && lowest(division.fineSet(left)) == left) {
                count++;
            }
        }
        return count;
    }

    /** Returns the lowest left node of the fine part of a left node. */
    public int finePart(int left) throws IndexOutOfBoundsException, NoSuchElementException {
        requireLeft(left);
        division.divide(graph, kept);
        requireSquare(left);
        return lowest(division.fineSet(left));
    }

    /** Returns whether a left node can be reached from another one by leading, within the square part. */
    public boolean leads(int from, int to) throws IndexOutOfBoundsException, NoSuchElementException {
        requireLeft(from);
        requireLeft(to);
        division.divide(graph, kept);
        requireSquare(from);
        requireSquare(to);
        return holds(division.reached[from], to);
    }

    /** Returns whether an edge is in some largest matching. */
    public boolean isInSome(int left, int right) throws IndexOutOfBoundsException, NoSuchElementException {
        requireEdge(left, right);
        division.divide(graph, kept);
        int leftPart = division.leftPart(left);
        if (leftPart != division.rightPart(right)) {
            return false;
        }
        return leftPart != SQUARE || division.isWithinFinePart(left, kept.ofRight[right]);
    }

    /** Returns whether an edge is in all largest matchings. */
    public boolean isInAll(int left, int right) throws IndexOutOfBoundsException, NoSuchElementException {
        requireEdge(left, right);
        if (kept.ofLeft[left] != right) {
            return false;
        }
        division.divide(graph, kept);
        return division.leftPart(left) == SQUARE && division.fineSet(left) == (1 << left);
    }

    /** Returns how many largest matchings there are; 1 if there are no edges. */
    public long largestMatchings() {
        return counter.count(graph, kept.pairs);
    }

    // ---- covers

    /** Returns whether a left node is in the left cover. */
    public boolean coversLeft(int left) throws IndexOutOfBoundsException {
        requireLeft(left);
        division.divide(graph, kept);
        return division.leftPart(left) != LEFT_HEAVY;
    }

    /** Returns whether a right node is in the left cover. */
    public boolean coversRight(int right) throws IndexOutOfBoundsException {
        requireRight(right);
        division.divide(graph, kept);
        return division.rightPart(right) == LEFT_HEAVY;
    }

    /** Returns how many least covers there are; 1 if there are no edges. */
    public int leastCovers() {
        return countCovers(graph, 0, 0, 0, kept.pairs);
    }

    /** Returns the greatest excess of a set of left nodes over the right nodes with an edge to it. */
    public int greatestExcess() {
        // By the theorem of Koenig and Ore it is the number of left nodes that a largest matching leaves free.
        return graph.leftCount - kept.pairs;
    }

    // ---- what the calls ask of their arguments

    private void requireLeft(int left) {
        if (left < 0 || left >= graph.leftCount) {
            throw new IndexOutOfBoundsException("there is no such left node");
        }
    }

    private void requireRight(int right) {
        if (right < 0 || right >= graph.rightCount) {
            throw new IndexOutOfBoundsException("there is no such right node");
        }
    }

    private void requireBoth(int left, int right) {
        requireLeft(left);
        requireRight(right);
    }

    private void requireEdge(int left, int right) {
        requireBoth(left, right);
        if (!graph.has(left, right)) {
            throw new NoSuchElementException("there is no such edge");
        }
    }

    private void requirePhase(int phase) {
        if (phase < 0 || phase >= builder.count) {
            throw new IndexOutOfBoundsException("there is no such phase");
        }
    }

    private void requireSquare(int left) {
        if (division.leftPart(left) != SQUARE) {
            throw new NoSuchElementException("the left node is not in the square part");
        }
    }

    // ---- sets of nodes, a bit for each node

    private static boolean holds(int set, int node) {
        return ((set >> node) & 1) != 0;
    }

    private static int lowest(int set) {
        for (int node = 0; node < MOST_NODES; node++) {
            if (holds(set, node)) {
                return node;
            }
        }
        return NONE;
    }

    /**
     * Counts the covers of at most the given size: each left node from the given one on is chosen or not,
     * and the right nodes of those that are not chosen are needed. A least cover has no others, so none
     * is counted twice or left out.
     */
    private static int countCovers(Graph graph, int left, int chosen, int needed, int most) {
        if (chosen + Integer.bitCount(needed) > most) {
            return 0;
        }
        if (left >= graph.leftCount || left >= MOST_NODES) {
            return 1;
        }
        return countCovers(graph, left + 1, chosen + 1, needed, most)
            + countCovers(graph, left + 1, chosen, needed | graph.rightsOf[left], most);
    }

    /** The nodes and the edges; a row holds for each node the set of its neighbours. */
    private static final class Graph {
        final int[] rightsOf = new int[MOST_NODES];
        final int[] leftsOf = new int[MOST_NODES];
        int leftCount;
        int rightCount;
        int edgeCount;

        boolean has(int left, int right) {
            return holds(rightsOf[left], right);
        }

        void add(int left, int right) {
            rightsOf[left] |= 1 << right;
            leftsOf[right] |= 1 << left;
            edgeCount++;
        }

        void remove(int left, int right) {
            rightsOf[left] &= ~(1 << right);
            leftsOf[right] &= ~(1 << left);
            edgeCount--;
        }
    }

    /** The partners of the nodes of both sides, NONE for a free node. */
    private static final class Matching {
        final int[] ofLeft = new int[MOST_NODES];
        final int[] ofRight = new int[MOST_NODES];
        int pairs;

        Matching() {
            Arrays.fill(ofLeft, NONE);
            Arrays.fill(ofRight, NONE);
        }

        void clear() {
            Arrays.fill(ofLeft, NONE);
            Arrays.fill(ofRight, NONE);
            pairs = 0;
        }

        void become(Matching other) {
            System.arraycopy(other.ofLeft, 0, ofLeft, 0, MOST_NODES);
            System.arraycopy(other.ofRight, 0, ofRight, 0, MOST_NODES);
            pairs = other.pairs;
        }

        /** Makes partners along a path; whoever leads the path counts the pair that it adds. */
        void join(int left, int right) {
            ofLeft[left] = right;
            ofRight[right] = left;
        }

        void separate(int left, int right) {
            ofLeft[left] = NONE;
            ofRight[right] = NONE;
            pairs--;
        }

        int freeLefts(int leftCount) {
            return freeOf(ofLeft, leftCount);
        }

        int freeRights(int rightCount) {
            return freeOf(ofRight, rightCount);
        }

        private static int freeOf(int[] partners, int count) {
            int free = 0;
            for (int node = 0; node < count; node++) {
                if (partners[node] == NONE) {
                    free |= 1 << node;
                }
            }
            return free;
        }
    }

    /** The search that follows a change of an edge. */
    private static final class Search {
        private final int[] queue = new int[MOST_NODES];
        private final int[] lookedFrom = new int[MOST_NODES];
        private int waiting;

        /** Searches once and returns whether the matching has one more edge then. */
        boolean enlarge(Graph graph, Matching matching) {
            Arrays.fill(lookedFrom, NONE);
            queueFreeLefts(graph, matching);
            for (int head = 0; head < waiting && head < MOST_NODES; head++) {
                int end = lookFrom(queue[head], graph, matching);
                if (end != NONE) {
                    changePath(end, matching);
                    return true;
                }
            }
            return false;
        }

        private void queueFreeLefts(Graph graph, Matching matching) {
            waiting = 0;
            int free = matching.freeLefts(graph.leftCount);
            for (int left = 0; left < graph.leftCount; left++) {
                if (holds(free, left)) {
                    putAtEnd(left);
                }
            }
        }

        // No left node comes twice into the queue, so there is room for each; the test only shows it.
        private void putAtEnd(int left) {
            if (waiting < MOST_NODES) {
                queue[waiting] = left;
                waiting++;
            }
        }

        /** Looks at the right nodes of a left node and returns a free one, or NONE. */
        private int lookFrom(int left, Graph graph, Matching matching) {
            for (int right = 0; right < graph.rightCount; right++) {
                if (graph.has(left, right) && lookedFrom[right] == NONE) {
                    lookedFrom[right] = left;
                    int partner = matching.ofRight[right];
                    if (partner == NONE) {
                        return right;
                    }
                    putAtEnd(partner);
                }
            }
            return NONE;
        }

        private void changePath(int end, Matching matching) {
            int right = end;
            for (int step = 0; step < MOST_NODES && right != NONE; step++) {
                int left = lookedFrom[right];
                if (left == NONE) {
                    break;
                }
                int before = matching.ofLeft[left];
                matching.join(left, right);
                right = before;
            }
            matching.pairs++;
        }
    }

    /** The phases that build a largest matching from the empty one. */
    private static final class PhaseBuilder {
        final Matching built = new Matching();
        final int[] depths = new int[MOST_NODES];
        final int[] paths = new int[MOST_NODES];
        int count;
        private final int[] levels = new int[MOST_NODES];
        private int depth;
        private int taken;

        void build(Graph graph) {
            built.clear();
            count = 0;
            // Each phase finds a path, so there are never more phases than left nodes.
            for (int phase = 0; phase < MOST_NODES; phase++) {
                giveLevels(graph);
                depth = leastDepth(graph);
                if (depth == NONE) {
                    break;
                }
                depths[phase] = depth;
                paths[phase] = findPaths(graph);
                count = phase + 1;
            }
        }

        private void giveLevels(Graph graph) {
            int free = built.freeLefts(graph.leftCount);
            for (int left = 0; left < graph.leftCount; left++) {
                levels[left] = holds(free, left) ? 0 : NONE;
            }
            for (int level = 0; level < graph.leftCount; level++) {
                for (int left = 0; left < graph.leftCount; left++) {
                    if (levels[left] == level) {
                        levelPartners(graph, left, level + 1);
                    }
                }
            }
        }

        private void levelPartners(Graph graph, int left, int level) {
            for (int right = 0; right < graph.rightCount; right++) {
                int partner = built.ofRight[right];
                if (graph.has(left, right) && partner != NONE && levels[partner] == NONE) {
                    levels[partner] = level;
                }
            }
        }

        /** Returns the least level of a left node that has an edge to a free right node, or NONE. */
        private int leastDepth(Graph graph) {
            int free = built.freeRights(graph.rightCount);
            int least = NONE;
            for (int left = 0; left < graph.leftCount; left++) {
                boolean ends = levels[left] != NONE && (graph.rightsOf[left] & free) != 0;
                if (ends && (least == NONE || levels[left] < least)) {
                    least = levels[left];
                }
            }
            return least;
        }

        private int findPaths(Graph graph) {
            taken = 0;
            int found = 0;
            for (int left = 0; left < graph.leftCount; left++) {
                // The level, not the partner, tells who was free as the phase began.
                if (levels[left] == 0 && findPartner(this, graph, left, 0)) {
                    found++;
                }
            }
            built.pairs += found;
            return found;
        }

        private static boolean findPartner(PhaseBuilder run, Graph graph, int left, int level) {
            if (level > run.depth || level >= MOST_NODES) {
                return false;
            }
            for (int right = 0; right < graph.rightCount; right++) {
                if (graph.has(left, right) && run.isToTake(right, level)) {
                    run.taken |= 1 << right;
                    int partner = run.built.ofRight[right];
                    if (partner == NONE || findPartner(run, graph, partner, level + 1)) {
                        run.built.join(left, right);
                        return true;
                    }
                }
            }
            return false;
        }

        private boolean isToTake(int right, int level) {
            if (holds(taken, right)) {
                return false;
            }
            int partner = built.ofRight[right];
            if (partner == NONE) {
                return level == depth;
            }
            return level < depth && levels[partner] == level + 1;
        }
    }

    /** The parts of Dulmage and Mendelsohn and the fine parts, all made from a largest matching. */
    private static final class Division {
        /** For each left node of the square part the left nodes that it reaches by leading, itself too. */
        final int[] reached = new int[MOST_NODES];
        private int leftHeavyLefts;
        private int leftHeavyRights;
        private int rightHeavyLefts;
        private int rightHeavyRights;

        void divide(Graph graph, Matching matching) {
            leftHeavyLefts = matching.freeLefts(graph.leftCount);
            rightHeavyRights = matching.freeRights(graph.rightCount);
            for (int round = 0; round < MOST_NODES; round++) {
                leftHeavyRights = union(graph.rightsOf, leftHeavyLefts);
                leftHeavyLefts |= partners(matching.ofRight, leftHeavyRights);
                rightHeavyLefts = union(graph.leftsOf, rightHeavyRights);
                rightHeavyRights |= partners(matching.ofLeft, rightHeavyLefts);
            }
            reach(graph, matching);
        }

        private void reach(Graph graph, Matching matching) {
            int square = ((1 << graph.leftCount) - 1) & ~(leftHeavyLefts | rightHeavyLefts);
            for (int left = 0; left < graph.leftCount; left++) {
                reached[left] = 0;
                if (holds(square, left)) {
                    reached[left] = (partners(matching.ofRight, graph.rightsOf[left]) | (1 << left)) & square;
                }
            }
            for (int over = 0; over < graph.leftCount; over++) {
                for (int from = 0; from < graph.leftCount; from++) {
                    if (holds(reached[from], over)) {
                        reached[from] |= reached[over];
                    }
                }
            }
        }

        private static int union(int[] neighboursOf, int nodes) {
            int union = 0;
            for (int node = 0; node < MOST_NODES; node++) {
                if (holds(nodes, node)) {
                    union |= neighboursOf[node];
                }
            }
            return union;
        }

        private static int partners(int[] partnerOf, int nodes) {
            int partners = 0;
            for (int node = 0; node < MOST_NODES; node++) {
                if (holds(nodes, node) && partnerOf[node] != NONE) {
                    partners |= 1 << partnerOf[node];
                }
            }
            return partners;
        }

        int leftPart(int left) {
            return partIn(leftHeavyLefts, rightHeavyLefts, left);
        }

        int rightPart(int right) {
            return partIn(leftHeavyRights, rightHeavyRights, right);
        }

        private static int partIn(int leftHeavy, int rightHeavy, int node) {
            if (holds(leftHeavy, node)) {
                return LEFT_HEAVY;
            }
            return holds(rightHeavy, node) ? RIGHT_HEAVY : SQUARE;
        }

        /** Returns the fine part of a left node of the square part. */
        int fineSet(int left) {
            int set = 0;
            for (int other = 0; other < MOST_NODES; other++) {
                if (holds(reached[left], other) && holds(reached[other], left)) {
                    set |= 1 << other;
                }
            }
            return set;
        }

        boolean isWithinFinePart(int left, int other) {
            return other != NONE && holds(fineSet(left), other);
        }
    }

    /** Counts the largest matchings by the sets of right nodes that they use. */
    private static final class MatchingCounter {
        private final long[] ways = new long[1 << MOST_NODES];

        long count(Graph graph, int pairs) {
            Arrays.fill(ways, 0);
            ways[0] = 1;
            for (int left = 0; left < graph.leftCount; left++) {
                if (graph.rightsOf[left] != 0) {
                    addWays(graph.rightsOf[left], graph.rightCount);
                }
            }
            long total = 0;
            for (int used = 0; used < (1 << graph.rightCount); used++) {
                if (Integer.bitCount(used) == pairs) {
                    total += ways[used];
                }
            }
            return total;
        }

        private void addWays(int rights, int rightCount) {
            // Larger sets come first, so that no matching gets two edges of the same left node.
            for (int used = (1 << rightCount) - 1; used >= 0; used--) {
                if (ways[used] != 0) {
                    spreadWays(used, rights & ~used, rightCount);
                }
            }
        }

        private void spreadWays(int used, int rights, int rightCount) {
            for (int right = 0; right < rightCount; right++) {
                if (holds(rights, right)) {
                    ways[used | (1 << right)] += ways[used];
                }
            }
        }
    }
}
