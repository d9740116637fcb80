import java.util.NoSuchElementException;

/** Promises 7 to 9 at their bounds: first and last nodes, no edge, all edges, and what is refused. */
public final class BoundaryEdgesTest {
    private static final Class<IndexOutOfBoundsException> BOUNDS = IndexOutOfBoundsException.class;
    private static final Class<IllegalStateException> STATE = IllegalStateException.class;
    private static final Class<NoSuchElementException> ELEMENT = NoSuchElementException.class;

    public static void main(String[] args) {
        connectAtTheEnds();
        connectWithOneMore();
        connectWithoutOneMore();
        connectOutside();
        connectTwice();
        disconnectAtTheEnds();
        disconnectWithOneLess();
        disconnectWithoutOneLess();
        disconnectOutside();
        disconnectWithoutEdge();
        hasEdgeAtTheEnds();
        hasEdgeOutside();
        Check.end("BoundaryEdgesTest");
    }

    private static Phasehall twelve(String edges) {
        return Check.hall(12, 12, edges);
    }

    // ---- 7: "Adds an edge."

    private static void connectAtTheEnds() {
        int[] ends = {0, 11};
        for (int left : ends) {
            for (int right : ends) {
                Phasehall x = Bound.NO_EDGES.make();
                String edge = left + "-" + right;
                Check.same("7: the only edge " + edge, x.connect(left, right), true);
                Check.same("7: its left node", x.partnerOfLeft(left), right);
                Check.same("7: its right node", x.partnerOfRight(right), left);
                Check.same("7: no other edge than " + edge, edgesOf(x), edge);
            }
        }
        Phasehall x = Check.hall(1, 1, "");
        Check.same("7: one node of each side", x.connect(0, 0), true);
        Check.same("7: the last nodes beside all others", twelve(Edges.all(11, 11)).connect(11, 11), true);
        Phasehall all = Bound.ALL_EDGES.make();
        all.disconnect(11, 11);
        Check.same("7: the 144th edge", all.connect(11, 11), false);
        Check.same("7: it is there", all.hasEdge(11, 11), true);
        Check.same("7: all edges", all.edges(), 144);
    }

    private static String edgesOf(Phasehall x) {
        StringBuilder text = new StringBuilder();
        for (int left = 0; left < 12; left++) {
            for (int right = 0; right < 12; right++) {
                if (x.hasEdge(left, right)) {
                    text.append(text.length() == 0 ? "" : " ").append(left).append('-').append(right);
                }
            }
        }
        return text.toString();
    }

    // "Returns whether the kept matching has one more edge then."

    private static void connectWithOneMore() {
        Phasehall last = twelve("");
        Check.same("7: all 12 left nodes wait, the last one finds", last.connect(11, 5), true);
        Check.same("7: the last one's partner", Check.partners(last), "- - - - - - - - - - - 5");
        Phasehall first = twelve(Edges.rising(11, 11) + " 11-0");
        Check.same("7: before the longest way", Check.partners(first), "0 1 2 3 4 5 6 7 8 9 10 -");
        Check.same("7: the longest way, by its last edge", first.connect(10, 11), true);
        Check.same("7: every left node has moved on", Check.partners(first), "1 2 3 4 5 6 7 8 9 10 11 0");
        Phasehall other = twelve(Edges.rising(11, 12));
        Check.same("7: before the longest way the other way round", other.size(), 11);
        Check.same("7: the longest way, by its first edge", other.connect(11, 0), true);
        Check.same("7: every node has a partner", other.size(), 12);
        Phasehall middle = Check.hall(3, 3, "1-0 2-1 0-0 2-2");
        Check.same("7: before an edge between matched nodes", Check.partners(middle), "- 0 1");
        Check.same("7: an edge between matched nodes", middle.connect(1, 1), true);
        Check.same("7: it is in the middle of the way", Check.partners(middle), "0 1 2");
        Phasehall one = twelve(Edges.star(12, 0));
        Check.same("7: one matched edge becomes two", one.connect(0, 11), true);
        Check.same("7: size of two", one.size(), 2);
    }

    private static void connectWithoutOneMore() {
        Phasehall lefts = twelve(Edges.apart(12));
        Check.same("7: no free node at all", lefts.connect(0, 11), false);
        Check.same("7: all stay matched", Check.partners(lefts), "0 1 2 3 4 5 6 7 8 9 10 11");
        Phasehall noLeft = Check.hall(11, 12, Edges.apart(11));
        Check.same("7: no free left node", noLeft.connect(0, 11), false);
        Check.same("7: its matching stays", Check.partners(noLeft), "0 1 2 3 4 5 6 7 8 9 10");
        Phasehall noRight = Check.hall(12, 11, Edges.apart(11));
        Check.same("7: no free right node", noRight.connect(11, 0), false);
        Check.same("7: it stays unmatched", Check.partners(noRight), "0 1 2 3 4 5 6 7 8 9 10 -");
        Phasehall star = twelve(Edges.star(11, 0));
        Check.same("7: one right node for all", star.connect(11, 0), false);
        Check.same("7: the first one keeps it", star.partnerOfRight(0), 0);
        Check.same("7: the edge is there all the same", star.edges(), 12);
    }

    // "Throws IndexOutOfBoundsException if there is no such left or no such right node"

    private static void connectOutside() {
        Refusal.outside("7: connect", Phasehall::lefts, Phasehall::rights, (x, left, right) -> x.connect(left, right));
        Phasehall x = Check.hall(11, 11, Edges.apart(11));
        Check.refused("7: a left node to come", BOUNDS, () -> x.connect(11, 0));
        Check.refused("7: a right node to come", BOUNDS, () -> x.connect(0, 11));
        x.addLeft();
        Check.refused("7: a right node that a left one has not brought", BOUNDS, () -> x.connect(11, 11));
        x.addRight();
        Check.same("7: nodes that have come", x.connect(11, 11), true);
    }

    // "Throws IllegalStateException if there is this edge"

    private static void connectTwice() {
        Refusal.unchanged("7: the only edge twice", STATE, Bound.ONE_EDGE, x -> x.connect(0, 0));
        Refusal.unchanged("7: the last matched edge twice", STATE, Bound.LAST_EDGE, x -> x.connect(11, 11));
        Refusal.unchanged("7: an unmatched edge twice", STATE, Bound.RISING, x -> x.connect(10, 11));
        Refusal.unchanged("7: an edge across parts twice", STATE, Bound.ALL_PARTS, x -> x.connect(5, 0));
        for (int node = 0; node < 12; node++) {
            int at = node;
            Phasehall x = Bound.ALL_EDGES.make();
            Check.refused("7: a 145th edge", STATE, () -> x.connect(at, 11 - at));
            Check.refused("7: another 145th edge", STATE, () -> x.connect(11 - at, 11 - at));
            Check.same("7: 144 edges stay", x.edges(), 144);
        }
        Phasehall x = Bound.ONE_EDGE.make();
        x.disconnect(0, 0);
        Check.same("7: an edge that was there", x.connect(0, 0), true);
        Check.refused("7: and is there again", STATE, () -> x.connect(0, 0));
        Phasehall turned = Check.hall(2, 2, "0-1");
        Check.same("7: the edge of the same numbers turned round", turned.connect(1, 0), true);
    }

    // ---- 8: "Removes an edge."

    private static void disconnectAtTheEnds() {
        int[] ends = {0, 11};
        for (int left : ends) {
            for (int right : ends) {
                Phasehall x = twelve("0-0 0-11 11-0 11-11");
                x.disconnect(left, right);
                String rest = "0-0 0-11 11-0 11-11 ".replace(left + "-" + right + " ", "").trim();
                Check.same("8: just the edge " + left + "-" + right, edgesOf(x), rest);
                Check.same("8: its number of edges", x.edges(), 3);
                Check.same("8: its matching is a largest one", x.size(), 2);
            }
        }
    }

    // "Returns whether the kept matching has one edge less then."

    private static void disconnectWithOneLess() {
        Phasehall one = Bound.ONE_EDGE.make();
        Check.same("8: the only edge", one.disconnect(0, 0), true);
        Check.same("8: no edge is left", one.edges(), 0);
        Check.same("8: the empty matching", one.size(), 0);
        Check.refused("8: its left node is free", ELEMENT, () -> one.partnerOfLeft(0));
        Check.refused("8: its right node is free", ELEMENT, () -> one.partnerOfRight(0));
        Phasehall apart = Bound.APART.make();
        for (int node = 0; node < 12; node++) {
            Check.same("8: edges without another way", apart.disconnect(node, node), true);
            Check.same("8: size goes down to 0", apart.size(), 11 - node);
        }
        Phasehall rising = Bound.RISING.make();
        Check.same("8: the one matching of all nodes", rising.disconnect(5, 5), true);
        Check.same("8: the others stay", Check.partners(rising), "0 1 2 3 4 - 6 7 8 9 10 11");
    }

    private static void disconnectWithoutOneLess() {
        Phasehall ring = twelve(Edges.ring(12));
        Check.same("8: before", Check.partners(ring), "0 1 2 3 4 5 6 7 8 9 10 11");
        Check.same("8: the longest way round", ring.disconnect(11, 11), false);
        Check.same("8: every node has moved on", Check.partners(ring), "1 2 3 4 5 6 7 8 9 10 11 0");
        Check.same("8: an unmatched edge", ring.disconnect(3, 3), false);
        Check.same("8: the matching stays", Check.partners(ring), "1 2 3 4 5 6 7 8 9 10 11 0");
        Check.same("8: now without another way", ring.disconnect(3, 4), true);
        Phasehall all = Bound.ALL_EDGES.make();
        Check.same("8: a matched edge of all", all.disconnect(0, all.partnerOfLeft(0)), false);
        Check.same("8: all nodes stay matched", all.size(), 12);
        Check.same("8: 143 edges", all.edges(), 143);
        Phasehall star = twelve(Edges.star(12, 11));
        for (int left = 0; left < 11; left++) {
            Check.same("8: the next free left node", star.disconnect(left, 11), false);
            Check.same("8: is the lowest one with an edge", star.partnerOfRight(11), left + 1);
        }
        Check.same("8: the last edge of a star", star.disconnect(11, 11), true);
        Phasehall turned = twelve(Edges.turnedStar(11, 12));
        for (int right = 0; right < 11; right++) {
            Check.same("8: the next free right node", turned.disconnect(11, right), false);
            Check.same("8: is the lowest one with an edge", turned.partnerOfLeft(11), right + 1);
        }
        Check.same("8: the last edge of a turned star", turned.disconnect(11, 11), true);
    }

    // "Throws IndexOutOfBoundsException if there is no such left or no such right node"

    private static void disconnectOutside() {
        Refusal.outside("8: disconnect", Phasehall::lefts, Phasehall::rights,
            (x, left, right) -> x.disconnect(left, right));
    }

    // "Throws NoSuchElementException if there is no such edge"

    private static void disconnectWithoutEdge() {
        Refusal.unchanged("8: no edge at the first nodes", ELEMENT, Bound.NO_EDGES, x -> x.disconnect(0, 0));
        Refusal.unchanged("8: no edge at the last nodes", ELEMENT, Bound.NO_EDGES, x -> x.disconnect(11, 11));
        Refusal.unchanged("8: no edge beside the last one", ELEMENT, Bound.LAST_EDGE, x -> x.disconnect(11, 10));
        Refusal.unchanged("8: no edge between matched nodes", ELEMENT, Bound.APART, x -> x.disconnect(0, 11));
        Refusal.unchanged("8: no edge between free nodes", ELEMENT, Bound.LAST_EDGE, x -> x.disconnect(0, 0));
        Refusal.unchanged("8: no edge in one part", ELEMENT, Bound.ALL_PARTS, x -> x.disconnect(3, 3));
        Phasehall x = Bound.ALL_EDGES.make();
        x.disconnect(11, 11);
        Check.refused("8: the one of 144 that has gone", ELEMENT, () -> x.disconnect(11, 11));
        Check.same("8: 143 stay", x.edges(), 143);
    }

    // ---- 9: "Returns whether there is an edge."

    private static void hasEdgeAtTheEnds() {
        for (int node = 0; node < 12; node++) {
            for (int other = 0; other < 12; other++) {
                Check.same("9: no edge", Bound.NO_EDGES.make().hasEdge(node, other), false);
                Check.same("9: apart", Bound.APART.make().hasEdge(node, other), node == other);
            }
        }
        Phasehall all = Bound.ALL_EDGES.make();
        for (int node = 0; node < 12; node++) {
            for (int other = 0; other < 12; other++) {
                Check.same("9: all edges", all.hasEdge(node, other), true);
            }
        }
        all.disconnect(11, 0);
        Check.same("9: the removed one", all.hasEdge(11, 0), false);
        Check.same("9: the same numbers turned round", all.hasEdge(0, 11), true);
        Check.same("9: the one before", all.hasEdge(10, 11), true);
        Check.same("9: the one after", all.hasEdge(11, 1), true);
    }

    // "Throws IndexOutOfBoundsException if there is no such left or no such right node"

    private static void hasEdgeOutside() {
        Refusal.outside("9: hasEdge", Phasehall::lefts, Phasehall::rights, (x, left, right) -> x.hasEdge(left, right));
    }
}
