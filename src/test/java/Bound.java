/** Objects at the bounds of the document; every call with a number is tried on each of them. */
enum Bound {
    NO_NODES(0, 0, ""),
    ONLY_LEFTS(12, 0, ""),
    ONLY_RIGHTS(0, 12, ""),
    NO_EDGES(12, 12, ""),
    ONE_EDGE(1, 1, "0-0"),
    LAST_EDGE(12, 12, "11-11"),
    ONE_RIGHT(12, 1, "11-0"),
    ONE_LEFT(1, 12, "0-11"),
    APART(12, 12, Edges.apart(12)),
    RISING(12, 12, Edges.rising(12, 12)),
    ALL_EDGES(12, 12, Edges.all(12, 12)),
    MORE_LEFTS(12, 11, Edges.all(12, 11)),
    MORE_RIGHTS(11, 12, Edges.all(11, 12)),
    /**
     * Lefts 0, 1 and right 0 are left-heavy; lefts 2, 3, 4 and rights 1, 2, 3 are square, with the fine
     * parts {2, 3} and {4}; left 5 and rights 4, 5 are right-heavy. Edges 4-0, 5-0, 4-1 and 5-3 go across.
     */
    ALL_PARTS(6, 6, "0-0 1-0 2-1 2-2 3-1 3-2 4-3 5-4 5-5 4-0 5-0 4-1 5-3");

    private final int lefts;
    private final int rights;
    private final String edges;

    Bound(int lefts, int rights, String edges) {
        this.lefts = lefts;
        this.rights = rights;
        this.edges = edges;
    }

    Phasehall make() {
        return Check.hall(lefts, rights, edges);
    }
}
