import java.util.ArrayDeque;
import java.util.ArrayList;
import java.util.Arrays;
import java.util.HashMap;
import java.util.List;
import java.util.NoSuchElementException;
import java.util.TreeMap;

/**
 * The same calls, answered by the words of the document in a slow way of their own: searches and phases
 * step by step, and all else by looking at what largest matchings there are, not at the kept one.
 */
public final class Model {
    private int leftCount;
    private int rightCount;
    private final boolean[][] edge = new boolean[12][12];
    private TreeMap<Integer, Integer> kept = new TreeMap<>();

    public int addLeft() {
        if (leftCount == 12) {
            throw new IllegalStateException();
        }
        return leftCount++;
    }

    public int addRight() {
        if (rightCount == 12) {
            throw new IllegalStateException();
        }
        return rightCount++;
    }

    public int lefts() {
        return leftCount;
    }

    public int rights() {
        return rightCount;
    }

    public int edges() {
        int count = 0;
        for (boolean[] row : edge) {
            for (boolean there : row) {
                count += there ? 1 : 0;
            }
        }
        return count;
    }

    public boolean connect(int left, int right) {
        if (hasEdge(left, right)) {
            throw new IllegalStateException();
        }
        int before = kept.size();
        edge[left][right] = true;
        search();
        return kept.size() > before;
    }

    public boolean disconnect(int left, int right) {
        needEdge(left, right);
        int before = kept.size();
        edge[left][right] = false;
        if (kept.containsKey(left) && kept.get(left) == right) {
            kept.remove(left);
            search();
        }
        return kept.size() < before;
    }

    public boolean hasEdge(int left, int right) {
        needLeft(left);
        needRight(right);
        return edge[left][right];
    }

    public int size() {
        return kept.size();
    }

    public int partnerOfLeft(int left) {
        needLeft(left);
        return orNone(kept.get(left));
    }

    public int partnerOfRight(int right) {
        needRight(right);
        return orNone(holder(kept, right));
    }

    private static int orNone(Integer partner) {
        if (partner == null) {
            throw new NoSuchElementException();
        }
        return partner;
    }

    private static Integer holder(TreeMap<Integer, Integer> matching, int right) {
        for (int left : matching.keySet()) {
            if (matching.get(left) == right) {
                return left;
            }
        }
        return null;
    }

    private void search() {
        ArrayDeque<Integer> queue = new ArrayDeque<>();
        TreeMap<Integer, Integer> from = new TreeMap<>();
        for (int left = 0; left < leftCount; left++) {
            if (!kept.containsKey(left)) {
                queue.add(left);
            }
        }
        while (!queue.isEmpty()) {
            int left = queue.remove();
            for (int right = 0; right < rightCount; right++) {
                if (!edge[left][right] || from.containsKey(right)) {
                    continue;
                }
                from.put(right, left);
                Integer partner = holder(kept, right);
                if (partner == null) {
                    change(right, from);
                    return;
                }
                queue.add(partner);
            }
        }
    }

    private void change(int right, TreeMap<Integer, Integer> from) {
        int left = from.get(right);
        Integer before = kept.put(left, right);
        if (before != null) {
            change(before, from);
        }
    }

    // ---- phases

    private List<int[]> phaseList = new ArrayList<>();
    private TreeMap<Integer, Integer> built = new TreeMap<>();
    private TreeMap<Integer, Integer> level = new TreeMap<>();
    private final List<Integer> taken = new ArrayList<>();

    public int phases() {
        buildAll();
        return phaseList.size();
    }

    public int depthOf(int phase) {
        return phase(phase)[0];
    }

    public int pathsOf(int phase) {
        return phase(phase)[1];
    }

    private int[] phase(int phase) {
        if (phase < 0 || phase >= phases()) {
            throw new IndexOutOfBoundsException();
        }
        return phaseList.get(phase);
    }

    public int rebuild() {
        buildAll();
        int changed = 0;
        for (int left = 0; left < leftCount; left++) {
            if (!String.valueOf(kept.get(left)).equals(String.valueOf(built.get(left)))) {
                changed++;
            }
        }
        kept = built;
        return changed;
    }

    private void buildAll() {
        phaseList = new ArrayList<>();
        built = new TreeMap<>();
        for (int depth = beginPhase(); depth >= 0; depth = beginPhase()) {
            List<Integer> free = new ArrayList<>();
            for (int left = 0; left < leftCount; left++) {
                if (!built.containsKey(left)) {
                    free.add(left);
                }
            }
            int paths = 0;
            for (int left : free) {
                paths += tries(left, depth) ? 1 : 0;
            }
            phaseList.add(new int[] {depth, paths});
        }
    }

    /** Gives the levels, lowest first, and returns the depth, -1 if there is no such phase. */
    private int beginPhase() {
        taken.clear();
        level = new TreeMap<>();
        ArrayDeque<Integer> queue = new ArrayDeque<>();
        for (int left = 0; left < leftCount; left++) {
            if (!built.containsKey(left)) {
                level.put(left, 0);
                queue.add(left);
            }
        }
        int depth = -1;
        while (!queue.isEmpty()) {
            int left = queue.remove();
            for (int right = 0; right < rightCount; right++) {
                Integer partner = holder(built, right);
                if (edge[left][right] && partner == null && depth < 0) {
                    depth = level.get(left);
                }
                if (edge[left][right] && partner != null && !level.containsKey(partner)) {
                    level.put(partner, level.get(left) + 1);
                    queue.add(partner);
                }
            }
        }
        return depth;
    }

    private boolean tries(int left, int depth) {
        for (Integer right = 0; right < rightCount; right++) {
            if (!edge[left][right] || taken.contains(right)) {
                continue;
            }
            Integer partner = holder(built, right);
            if (partner == null && level.get(left) != depth) {
                continue;
            }
            if (partner != null && (level.get(left) >= depth || level.get(partner) != level.get(left) + 1)) {
                continue;
            }
            taken.add(right);
            if (partner == null || tries(partner, depth)) {
                built.put(left, right);
                return true;
            }
        }
        return false;
    }

    // ---- parts: a node that some largest matching leaves free is heavy on its side

    public int partOfLeft(int left) {
        needLeft(left);
        if (isLeftHeavy(left)) {
            return 0;
        }
        for (int right = 0; right < rightCount; right++) {
            if (edge[left][right] && isRightHeavy(right)) {
                return 2;
            }
        }
        return 1;
    }

    public int partOfRight(int right) {
        needRight(right);
        if (isRightHeavy(right)) {
            return 2;
        }
        for (int left = 0; left < leftCount; left++) {
            if (edge[left][right] && isLeftHeavy(left)) {
                return 0;
            }
        }
        return 1;
    }

    private boolean isLeftHeavy(int left) {
        return largest(left, -1) == largest(-1, -1);
    }

    private boolean isRightHeavy(int right) {
        return largest(-1, right) == largest(-1, -1);
    }

    /** The size of a largest matching without a left and a right node. */
    private int largest(int withoutLeft, int withoutRight) {
        int[] partner = new int[12];
        Arrays.fill(partner, -1);
        int size = 0;
        for (int left = 0; left < leftCount; left++) {
            if (left != withoutLeft && place(left, partner, new boolean[12], withoutRight)) {
                size++;
            }
        }
        return size;
    }

    private boolean place(int left, int[] partner, boolean[] seen, int withoutRight) {
        for (int right = 0; right < rightCount; right++) {
            if (right != withoutRight && edge[left][right] && !seen[right]) {
                seen[right] = true;
                if (partner[right] < 0 || place(partner[right], partner, seen, withoutRight)) {
                    partner[right] = left;
                    return true;
                }
            }
        }
        return false;
    }

    public int fineParts() {
        int count = 0;
        for (int left = 0; left < leftCount; left++) {
            count += partOfLeft(left) == 1 && finePart(left) == left ? 1 : 0;
        }
        return count;
    }

    public int finePart(int left) {
        needLeft(left);
        needSquare(left);
        for (int other = 0; other < left; other++) {
            if (partOfLeft(other) == 1 && leads(left, other) && leads(other, left)) {
                return other;
            }
        }
        return left;
    }

    public boolean leads(int from, int to) {
        needLeft(from);
        needLeft(to);
        needSquare(from);
        needSquare(to);
        return reaches(from, to, new boolean[12]);
    }

    private boolean reaches(int from, int to, boolean[] seen) {
        seen[from] = true;
        if (from == to) {
            return true;
        }
        for (int right = 0; right < rightCount; right++) {
            Integer next = edge[from][right] ? holder(kept, right) : null;
            if (next != null && !seen[next] && partOfLeft(next) == 1 && reaches(next, to, seen)) {
                return true;
            }
        }
        return false;
    }

    public boolean isInSome(int left, int right) {
        needEdge(left, right);
        return largest(left, right) + 1 == largest(-1, -1);
    }

    public boolean isInAll(int left, int right) {
        needEdge(left, right);
        int with = largest(-1, -1);
        edge[left][right] = false;
        int without = largest(-1, -1);
        edge[left][right] = true;
        return without < with;
    }

    public long largestMatchings() {
        return countMatchings(0, 0, largest(-1, -1), new HashMap<>());
    }

    private long countMatchings(int left, int used, int due, HashMap<Integer, Long> known) {
        if (left == leftCount) {
            return Integer.bitCount(used) == due ? 1 : 0;
        }
        int key = left << 12 | used;
        if (!known.containsKey(key)) {
            long count = countMatchings(left + 1, used, due, known);
            for (int right = 0; right < rightCount; right++) {
                if (edge[left][right] && (used & 1 << right) == 0) {
                    count += countMatchings(left + 1, used | 1 << right, due, known);
                }
            }
            known.put(key, count);
        }
        return known.get(key);
    }

    // ---- covers: left nodes come first in a set, right nodes after them

    public boolean coversLeft(int left) {
        return partOfLeft(left) != 0;
    }

    public boolean coversRight(int right) {
        return partOfRight(right) == 0;
    }

    public int leastCovers() {
        int least = Integer.MAX_VALUE;
        int count = 0;
        for (int set = 0; set < 1 << leftCount + rightCount; set++) {
            int nodes = Integer.bitCount(set);
            if (nodes <= least && isCover(set)) {
                count = nodes < least ? 1 : count + 1;
                least = nodes;
            }
        }
        return count;
    }

    private boolean isCover(int set) {
        for (int left = 0; left < leftCount; left++) {
            for (int right = 0; right < rightCount; right++) {
                if (edge[left][right] && (set & (1 << left | 1 << leftCount + right)) == 0) {
                    return false;
                }
            }
        }
        return true;
    }

    public int greatestExcess() {
        int greatest = 0;
        for (int set = 0; set < 1 << leftCount; set++) {
            int neighbours = 0;
            for (int right = 0; right < rightCount; right++) {
                boolean touched = false;
                for (int left = 0; left < leftCount; left++) {
                    touched |= (set & 1 << left) != 0 && edge[left][right];
                }
                neighbours += touched ? 1 : 0;
            }
            greatest = Math.max(greatest, Integer.bitCount(set) - neighbours);
        }
        return greatest;
    }

    // ---- arguments

    private void needLeft(int left) {
        if (left < 0 || left >= leftCount) {
            throw new IndexOutOfBoundsException();
        }
    }

    private void needRight(int right) {
        if (right < 0 || right >= rightCount) {
            throw new IndexOutOfBoundsException();
        }
    }

    private void needEdge(int left, int right) {
        if (!hasEdge(left, right)) {
            throw new NoSuchElementException();
        }
    }

    private void needSquare(int left) {
        if (partOfLeft(left) != 1) {
            throw new NoSuchElementException();
        }
    }
}
