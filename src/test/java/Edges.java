/** Texts of edges for Check.hall: "0-0 0-1" and so on. */
final class Edges {
    private Edges() {
    }

    /** Every left node with every right node. */
    static String all(int lefts, int rights) {
        StringBuilder text = new StringBuilder();
        for (int left = 0; left < lefts; left++) {
            for (int right = 0; right < rights; right++) {
                add(text, left, right);
            }
        }
        return text.toString();
    }

    /** Each left node with the right node of its number. */
    static String apart(int count) {
        StringBuilder text = new StringBuilder();
        for (int node = 0; node < count; node++) {
            add(text, node, node);
        }
        return text.toString();
    }

    /** Each left node with the right nodes of its number and of the next one, where they exist. */
    static String rising(int lefts, int rights) {
        StringBuilder text = new StringBuilder(apart(Math.min(lefts, rights)));
        for (int left = 0; left < lefts && left + 1 < rights; left++) {
            add(text, left, left + 1);
        }
        return text.toString();
    }

    /** Each left node with the right nodes of its number and of the one before, where they exist. */
    static String falling(int lefts, int rights) {
        StringBuilder text = new StringBuilder(apart(Math.min(lefts, rights)));
        for (int left = 1; left < lefts && left - 1 < rights; left++) {
            add(text, left, left - 1);
        }
        return text.toString();
    }

    /** Each left node with the right node of the next number, the last one with the right node 0. */
    static String shifted(int count) {
        StringBuilder text = new StringBuilder();
        for (int node = 0; node < count; node++) {
            add(text, node, (node + 1) % count);
        }
        return text.toString();
    }

    /** Apart, then shifted: the kept matching is the one of the edges apart. */
    static String ring(int count) {
        return apart(count) + " " + shifted(count);
    }

    /** Shifted, then apart: the kept matching is the shifted one, while the phases build the one apart. */
    static String shiftedRing(int count) {
        return shifted(count) + " " + apart(count);
    }

    /** Every left node with one right node. */
    static String star(int lefts, int right) {
        StringBuilder text = new StringBuilder();
        for (int left = 0; left < lefts; left++) {
            add(text, left, right);
        }
        return text.toString();
    }

    /** One left node with every right node. */
    static String turnedStar(int left, int rights) {
        StringBuilder text = new StringBuilder();
        for (int right = 0; right < rights; right++) {
            add(text, left, right);
        }
        return text.toString();
    }

    private static void add(StringBuilder text, int left, int right) {
        text.append(text.length() == 0 ? "" : " ").append(left).append('-').append(right);
    }
}
