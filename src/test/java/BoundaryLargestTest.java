import java.util.NoSuchElementException;

/** Promises 22 to 24 at their bounds: edges in some, all or no largest matching, and the number of these. */
public final class BoundaryLargestTest {
    private static final Class<IndexOutOfBoundsException> BOUNDS = IndexOutOfBoundsException.class;
    private static final Class<NoSuchElementException> ELEMENT = NoSuchElementException.class;

    public static void main(String[] args) {
        inSomeAndInAll();
        inSomeNotInAll();
        inNone();
        everyKeptEdgeIsInSome();
        isInSomeOutside();
        isInSomeWithoutEdge();
        isInAllOutside();
        isInAllWithoutEdge();
        oneLargestMatching();
        mostLargestMatchings();
        Check.end("BoundaryLargestTest");
    }

    private static Phasehall twelve(String edges) {
        return Check.hall(12, 12, edges);
    }

    private static void edge(String what, Phasehall x, int left, int right, boolean some, boolean all) {
        Check.same("22: " + what + ", " + left + "-" + right, x.isInSome(left, right), some);
        Check.same("23: " + what + ", " + left + "-" + right, x.isInAll(left, right), all);
    }

    // ---- 22: "Returns whether an edge is in some largest matching." "Returns whether there is a largest matching
    // with this edge."
    // ---- 23: "Returns whether an edge is in all largest matchings." "Returns whether there is no largest matching
    // without this edge."

    private static void inSomeAndInAll() {
        askedFirst();
        edge("the only edge", Bound.ONE_EDGE.make(), 0, 0, true, true);
        edge("the last left node and one right node", Bound.ONE_RIGHT.make(), 11, 0, true, true);
        edge("one left node and the last right node", Bound.ONE_LEFT.make(), 0, 11, true, true);
        edge("the last edge", Bound.LAST_EDGE.make(), 11, 11, true, true);
        edge("the first edge", twelve("0-0"), 0, 0, true, true);
        edge("the last right node", twelve("0-11"), 0, 11, true, true);
        edge("the last left node", twelve("11-0"), 11, 0, true, true);
        Phasehall apart = Bound.APART.make();
        Phasehall rising = Bound.RISING.make();
        Phasehall falling = twelve(Edges.falling(12, 12));
        for (int node = 0; node < 12; node++) {
            edge("apart", apart, node, node, true, true);
            edge("rising", rising, node, node, true, true);
            edge("falling", falling, node, node, true, true);
        }
        Phasehall opened = twelve(Edges.ring(12));
        opened.disconnect(11, 11);
        for (int node = 0; node < 12; node++) {
            edge("a ring without one of its edges", opened, node, (node + 1) % 12, true, true);
        }
    }

    /** Of each object just this question is asked, so that no other one has prepared it. */
    private static void askedFirst() {
        Check.same("22: the only edge, asked first", Bound.ONE_EDGE.make().isInSome(0, 0), true);
        Check.same("23: the only edge, asked first", Bound.ONE_EDGE.make().isInAll(0, 0), true);
        Check.same("22: all edges, asked first", Bound.ALL_EDGES.make().isInSome(11, 11), true);
        Check.same("23: all edges, asked first", Bound.ALL_EDGES.make().isInAll(11, 11), false);
        Phasehall x = Check.hall(2, 2, "0-0 1-1 0-1 1-0");
        Check.same("23: one of two", x.isInAll(0, 0), false);
        x.disconnect(1, 0);
        Check.same("23: the one that is left", x.isInAll(0, 0), true);
        Check.same("22: the one that is none any more", x.isInSome(0, 1), false);
    }

    private static void inSomeNotInAll() {
        Phasehall all = Bound.ALL_EDGES.make();
        Phasehall moreLefts = Bound.MORE_LEFTS.make();
        Phasehall moreRights = Bound.MORE_RIGHTS.make();
        for (int node = 0; node < 12; node++) {
            for (int other = 0; other < 12; other++) {
                edge("all edges", all, node, other, true, false);
            }
            for (int other = 0; other < 11; other++) {
                edge("more left nodes", moreLefts, node, other, true, false);
                edge("more right nodes", moreRights, other, node, true, false);
            }
        }
        Phasehall ring = twelve(Edges.ring(12));
        Phasehall star = twelve(Edges.star(12, 11));
        Phasehall turned = twelve(Edges.turnedStar(11, 12));
        for (int node = 0; node < 12; node++) {
            edge("a ring", ring, node, node, true, false);
            edge("a ring", ring, node, (node + 1) % 12, true, false);
            edge("one right node for all", star, node, 11, true, false);
            edge("one left node for all", turned, 11, node, true, false);
        }
        Phasehall down = Check.hall(12, 11, Edges.falling(12, 11));
        edge("as far as can be from the free left node", down, 0, 0, true, false);
        edge("at the free left node", down, 11, 10, true, false);
        Phasehall up = Check.hall(11, 12, Edges.rising(11, 12));
        edge("as far as can be from the free right node", up, 0, 0, true, false);
        edge("at the free right node", up, 10, 11, true, false);
    }

    private static void inNone() {
        Phasehall rising = Bound.RISING.make();
        Phasehall falling = twelve(Edges.falling(12, 12));
        for (int node = 0; node < 11; node++) {
            edge("rising", rising, node, node + 1, false, false);
            edge("falling", falling, node + 1, node, false, false);
        }
        Phasehall ends = twelve(Edges.apart(12) + " 0-11");
        edge("from the first to the last node", ends, 0, 11, false, false);
        Phasehall parts = Bound.ALL_PARTS.make();
        edge("from the square to the left-heavy part", parts, 4, 0, false, false);
        edge("from the right-heavy to the left-heavy part", parts, 5, 0, false, false);
        edge("from the right-heavy to the square part", parts, 5, 3, false, false);
        edge("from one fine part to the other", parts, 4, 1, false, false);
    }

    private static void everyKeptEdgeIsInSome() {
        for (Bound bound : Bound.values()) {
            Phasehall x = bound.make();
            String[] partners = Check.partners(x).split(" ");
            for (int left = 0; left < partners.length; left++) {
                if (!partners[left].isEmpty() && !partners[left].equals("-")) {
                    int right = Integer.parseInt(partners[left]);
                    Check.same("22: a kept edge (" + bound + ")", x.isInSome(left, right), true);
                }
            }
        }
    }

    // "Throws IndexOutOfBoundsException if there is no such left or no such right node"

    private static void isInSomeOutside() {
        Refusal.outside("22: isInSome", Phasehall::lefts, Phasehall::rights,
            (x, left, right) -> x.isInSome(left, right));
        Phasehall x = Check.hall(11, 11, Edges.apart(11));
        Check.refused("22: a left node to come", BOUNDS, () -> x.isInSome(11, 0));
        Check.refused("22: a right node to come", BOUNDS, () -> x.isInSome(0, 11));
    }

    // "Throws NoSuchElementException if there is no such edge"

    private static void isInSomeWithoutEdge() {
        Refusal.unchanged("22: no edge at the first nodes", ELEMENT, Bound.NO_EDGES, x -> x.isInSome(0, 0));
        Refusal.unchanged("22: no edge at the last nodes", ELEMENT, Bound.NO_EDGES, x -> x.isInSome(11, 11));
        Refusal.unchanged("22: no edge in the square part", ELEMENT, Bound.APART, x -> x.isInSome(0, 11));
        Refusal.unchanged("22: no edge in the left-heavy part", ELEMENT, Bound.LAST_EDGE, x -> x.isInSome(0, 11));
        Refusal.unchanged("22: no edge across parts", ELEMENT, Bound.ALL_PARTS, x -> x.isInSome(0, 5));
        Phasehall x = Bound.ONE_EDGE.make();
        x.disconnect(0, 0);
        Check.refused("22: an edge that has gone", ELEMENT, () -> x.isInSome(0, 0));
    }

    // "Throws IndexOutOfBoundsException if there is no such left or no such right node"

    private static void isInAllOutside() {
        Refusal.outside("23: isInAll", Phasehall::lefts, Phasehall::rights,
            (x, left, right) -> x.isInAll(left, right));
        Phasehall x = Check.hall(11, 11, Edges.apart(11));
        Check.refused("23: a left node to come", BOUNDS, () -> x.isInAll(11, 0));
        Check.refused("23: a right node to come", BOUNDS, () -> x.isInAll(0, 11));
    }

    // "Throws NoSuchElementException if there is no such edge"

    private static void isInAllWithoutEdge() {
        Refusal.unchanged("23: no edge at the first nodes", ELEMENT, Bound.NO_EDGES, x -> x.isInAll(0, 0));
        Refusal.unchanged("23: no edge at the last nodes", ELEMENT, Bound.NO_EDGES, x -> x.isInAll(11, 11));
        Refusal.unchanged("23: no edge in the square part", ELEMENT, Bound.APART, x -> x.isInAll(0, 11));
        Refusal.unchanged("23: no edge in the left-heavy part", ELEMENT, Bound.LAST_EDGE, x -> x.isInAll(0, 11));
        Refusal.unchanged("23: no edge across parts", ELEMENT, Bound.ALL_PARTS, x -> x.isInAll(0, 5));
        Phasehall x = Bound.ONE_EDGE.make();
        x.disconnect(0, 0);
        Check.refused("23: an edge that has gone", ELEMENT, () -> x.isInAll(0, 0));
    }

    // ---- 24: "Returns how many largest matchings there are; 1 if there are no edges (the empty one)."

    private static void oneLargestMatching() {
        Bound[] one = {Bound.NO_NODES, Bound.ONLY_LEFTS, Bound.ONLY_RIGHTS, Bound.NO_EDGES, Bound.ONE_EDGE,
            Bound.LAST_EDGE, Bound.ONE_RIGHT, Bound.ONE_LEFT, Bound.APART, Bound.RISING};
        for (Bound bound : one) {
            Check.same("24: one (" + bound + ")", bound.make().largestMatchings(), 1L);
        }
        Phasehall x = Check.hall(1, 2, "0-0 0-1");
        Check.same("24: one of two edges", x.largestMatchings(), 2L);
        Check.same("24: asked again", x.largestMatchings(), 2L);
        x.disconnect(0, 0);
        Check.same("24: one edge", x.largestMatchings(), 1L);
        x.disconnect(0, 1);
        Check.same("24: no edge any more", x.largestMatchings(), 1L);
    }

    private static void mostLargestMatchings() {
        Check.same("24: all edges, 12!", Bound.ALL_EDGES.make().largestMatchings(), 479001600L);
        Check.same("24: more left nodes, 12!", Bound.MORE_LEFTS.make().largestMatchings(), 479001600L);
        Check.same("24: more right nodes, 12!", Bound.MORE_RIGHTS.make().largestMatchings(), 479001600L);
        Check.same("24: one right node for all", twelve(Edges.star(12, 11)).largestMatchings(), 12L);
        Check.same("24: one left node for all", twelve(Edges.turnedStar(11, 12)).largestMatchings(), 12L);
        Check.same("24: a ring", twelve(Edges.ring(12)).largestMatchings(), 2L);
        // Any one of the 12 left nodes may be the free one, and the others have no choice then.
        Check.same("24: a long way of 12 left nodes",
            Check.hall(12, 11, Edges.falling(12, 11)).largestMatchings(), 12L);
        Check.same("24: a long way of 12 right nodes",
            Check.hall(11, 12, Edges.rising(11, 12)).largestMatchings(), 12L);
        // 2 of the left-heavy part times 2 of the fine part of two nodes times 2 of the right-heavy part.
        Check.same("24: all parts", Bound.ALL_PARTS.make().largestMatchings(), 8L);
    }
}
