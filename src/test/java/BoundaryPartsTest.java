import java.util.NoSuchElementException;

/** Promises 17 to 21 at their bounds: no part, one part for all, the first and the last node of a part. */
public final class BoundaryPartsTest {
    private static final Class<IndexOutOfBoundsException> BOUNDS = IndexOutOfBoundsException.class;
    private static final Class<NoSuchElementException> ELEMENT = NoSuchElementException.class;

    public static void main(String[] args) {
        oneSideOnly();
        edgesThatHaveGone();
        onePartForAll();
        farthestNodes();
        besideOtherParts();
        partOfLeftOutside();
        partOfRightOutside();
        noFinePart();
        finePartsAtMost();
        lowestOfFinePart();
        finePartOutside();
        finePartNotSquare();
        leadsToItself();
        leadsOverAll();
        leadsOutside();
        leadsNotSquare();
        leadsWithTwoExceptions();
        Check.end("BoundaryPartsTest");
    }

    private static Phasehall twelve(String edges) {
        return Check.hall(12, 12, edges);
    }

    // ---- 17, 18: "Returns the part of a left node." "Returns the part of a right node."
    // "Returns 0 for the left-heavy part, 1 for the square part, 2 for the right-heavy part."

    private static void oneSideOnly() {
        Check.same("17: no right node", Check.parts(Bound.ONLY_LEFTS.make()), "000000000000|");
        Check.same("18: no left node", Check.parts(Bound.ONLY_RIGHTS.make()), "|222222222222");
        Check.same("17, 18: no nodes", Check.parts(Bound.NO_NODES.make()), "|");
        Check.same("17, 18: no edge", Check.parts(Bound.NO_EDGES.make()), "000000000000|222222222222");
        Phasehall x = Bound.ONE_EDGE.make();
        Check.same("17, 18: one edge", Check.parts(x), "1|1");
        x.disconnect(0, 0);
        Check.same("17, 18: no edge any more", Check.parts(x), "0|2");
    }

    private static void edgesThatHaveGone() {
        Phasehall right = Check.hall(1, 12, "0-0 0-11");
        Check.same("17, 18: by an edge to a free right node", Check.parts(right), "2|222222222222");
        right.disconnect(0, 11);
        Check.same("17, 18: not by the edge that has gone", Check.parts(right), "1|122222222222");
        Phasehall last = Check.hall(12, 12, "11-0 11-11");
        last.disconnect(11, 11);
        Check.same("17, 18: not by the last edge that has gone", Check.parts(last), "000000000001|122222222222");
        Phasehall left = Check.hall(12, 1, "0-0 11-0");
        Check.same("17, 18: by an edge to a free left node", Check.parts(left), "000000000000|0");
        left.disconnect(11, 0);
        Check.same("17, 18: not by the left node's edge that has gone", Check.parts(left), "100000000000|1");
    }

    private static void onePartForAll() {
        Check.same("17, 18: all edges", Check.parts(Bound.ALL_EDGES.make()), "111111111111|111111111111");
        Check.same("17, 18: 12 apart", Check.parts(Bound.APART.make()), "111111111111|111111111111");
        Check.same("17, 18: more left nodes", Check.parts(Bound.MORE_LEFTS.make()), "000000000000|00000000000");
        Check.same("17, 18: more right nodes", Check.parts(Bound.MORE_RIGHTS.make()), "22222222222|222222222222");
        Check.same("17, 18: the last nodes alone", Check.parts(Bound.LAST_EDGE.make()), "000000000001|222222222221");
        Check.same("17, 18: the last left node alone", Check.parts(Bound.ONE_RIGHT.make()), "000000000001|1");
        Check.same("17, 18: the last right node alone", Check.parts(Bound.ONE_LEFT.make()), "1|222222222221");
        Check.same("17, 18: the first nodes alone", Check.parts(twelve("0-0")), "100000000000|122222222222");
        Check.same("17, 18: one right node for all",
            Check.parts(twelve(Edges.star(12, 11))), "000000000000|222222222220");
        Check.same("17, 18: one left node for all",
            Check.parts(twelve(Edges.turnedStar(11, 12))), "000000000002|222222222222");
    }

    private static void farthestNodes() {
        Phasehall down = Check.hall(12, 11, Edges.falling(12, 11));
        Check.refused("17: the last left node is free", ELEMENT, () -> down.partnerOfLeft(11));
        Check.same("17: the first left node can be reached from the last one", down.partOfLeft(0), 0);
        Check.same("18: the first right node, too", down.partOfRight(0), 0);
        Check.same("17, 18: all nodes from a free left one", Check.parts(down), "000000000000|00000000000");
        Phasehall up = Check.hall(12, 11, "1-0 2-1 3-2 4-3 5-4 6-5 7-6 8-7 9-8 10-9 11-10 " + Edges.apart(11));
        Check.refused("17: the first left node is free", ELEMENT, () -> up.partnerOfLeft(0));
        Check.same("17: the last left node can be reached from the first one", up.partOfLeft(11), 0);
        Check.same("18: the last right node, too", up.partOfRight(10), 0);
        Phasehall right = Check.hall(11, 12, Edges.rising(11, 12));
        Check.refused("18: the last right node is free", ELEMENT, () -> right.partnerOfRight(11));
        Check.same("17: the first left node from the last right one", right.partOfLeft(0), 2);
        Check.same("18: the first right node from the last one", right.partOfRight(0), 2);
        Phasehall turned = Check.hall(11, 12, Edges.shifted(12).replace(" 11-0", "") + " " + Edges.apart(11));
        Check.refused("18: the first right node is free", ELEMENT, () -> turned.partnerOfRight(0));
        Check.same("17: the last left node from the first right one", turned.partOfLeft(10), 2);
        Check.same("18: the last right node from the first one", turned.partOfRight(11), 2);
    }

    private static void besideOtherParts() {
        Phasehall x = Bound.ALL_PARTS.make();
        Check.same("17: the first of the left-heavy part", x.partOfLeft(0), 0);
        Check.same("17: the last of the left-heavy part", x.partOfLeft(1), 0);
        Check.same("17: the first of the square part", x.partOfLeft(2), 1);
        Check.same("17: the last of the square part, with an edge to the left-heavy one", x.partOfLeft(4), 1);
        Check.same("17: the right-heavy part, with edges to both others", x.partOfLeft(5), 2);
        Check.same("18: the left-heavy part, with edges to both others", x.partOfRight(0), 0);
        Check.same("18: the first of the square part", x.partOfRight(1), 1);
        Check.same("18: the last of the square part, with an edge to the right-heavy one", x.partOfRight(3), 1);
        Check.same("18: the first of the right-heavy part", x.partOfRight(4), 2);
        Check.same("18: the last of the right-heavy part", x.partOfRight(5), 2);
    }

    // "Throws IndexOutOfBoundsException if there is no such node"

    private static void partOfLeftOutside() {
        Refusal.outside("17: partOfLeft", Phasehall::lefts, (x, left) -> x.partOfLeft(left));
        Phasehall x = Check.hall(11, 12, "");
        Check.refused("17: a node to come", BOUNDS, () -> x.partOfLeft(11));
        x.addLeft();
        Check.same("17: a node that has come", x.partOfLeft(11), 0);
    }

    private static void partOfRightOutside() {
        Refusal.outside("18: partOfRight", Phasehall::rights, (x, right) -> x.partOfRight(right));
        Phasehall x = Check.hall(12, 11, "");
        Check.refused("18: a node to come", BOUNDS, () -> x.partOfRight(11));
        x.addRight();
        Check.same("18: a node that has come", x.partOfRight(11), 2);
    }

    // ---- 19: "Returns the number of fine parts."

    private static void noFinePart() {
        Bound[] without = {Bound.NO_NODES, Bound.ONLY_LEFTS, Bound.ONLY_RIGHTS, Bound.NO_EDGES, Bound.MORE_LEFTS,
            Bound.MORE_RIGHTS};
        for (Bound bound : without) {
            Check.same("19: no square part (" + bound + ")", bound.make().fineParts(), 0);
        }
        Phasehall x = Bound.ONE_EDGE.make();
        x.disconnect(0, 0);
        Check.same("19: no square part any more", x.fineParts(), 0);
    }

    private static void finePartsAtMost() {
        Check.same("19: one edge", Bound.ONE_EDGE.make().fineParts(), 1);
        Check.same("19: the last edge", Bound.LAST_EDGE.make().fineParts(), 1);
        Check.same("19: the last of 12 left nodes", Bound.ONE_RIGHT.make().fineParts(), 1);
        Check.same("19: the last of 12 right nodes", Bound.ONE_LEFT.make().fineParts(), 1);
        Check.same("19: the last three of 12 left nodes",
            Check.hall(12, 3, "9-0 10-1 11-2 9-1 10-2 11-1").fineParts(), 2);
        Check.same("19: 12 apart", Bound.APART.make().fineParts(), 12);
        Check.same("19: 12 that lead one to the next", Bound.RISING.make().fineParts(), 12);
        Check.same("19: all edges", Bound.ALL_EDGES.make().fineParts(), 1);
        Check.same("19: all parts", Bound.ALL_PARTS.make().fineParts(), 2);
        Phasehall ring = twelve(Edges.ring(12));
        Check.same("19: one ring of all", ring.fineParts(), 1);
        ring.disconnect(11, 0);
        Check.same("19: the ring opened", ring.fineParts(), 12);
    }

    // ---- 20: "Returns the fine part of a left node." "Returns the lowest left node of its fine part."

    private static void lowestOfFinePart() {
        Check.same("20: the only node", Bound.ONE_EDGE.make().finePart(0), 0);
        Check.same("20: the last node alone", Bound.LAST_EDGE.make().finePart(11), 11);
        Check.same("20: the last node with the only right node", Bound.ONE_RIGHT.make().finePart(11), 11);
        Check.same("20: the only node with the last right node", Bound.ONE_LEFT.make().finePart(0), 0);
        Phasehall apart = Bound.APART.make();
        Phasehall rising = Bound.RISING.make();
        Phasehall ring = twelve(Edges.shiftedRing(12));
        Phasehall all = Bound.ALL_EDGES.make();
        for (int node = 0; node < 12; node++) {
            Check.same("20: 12 apart", apart.finePart(node), node);
            Check.same("20: one leads to the next, not back", rising.finePart(node), node);
            Check.same("20: a ring of all", ring.finePart(node), 0);
            Check.same("20: all edges", all.finePart(node), 0);
        }
        Phasehall ends = twelve(Edges.apart(12) + " 0-11 11-0 10-1 1-10");
        Check.same("20: the last node with the first one", ends.finePart(11), 0);
        Check.same("20: the first node with the last one", ends.finePart(0), 0);
        Check.same("20: the last but one with the second one", ends.finePart(10), 1);
        Check.same("20: between them", ends.finePart(5), 5);
        Phasehall last = twelve(Edges.apart(12) + " 10-11 11-10");
        Check.same("20: the last two", last.finePart(11), 10);
        Check.same("20: the lowest of the last two itself", last.finePart(10), 10);
        Check.same("20: not with the one before", last.finePart(9), 9);
    }

    // "Throws IndexOutOfBoundsException if there is no such node"

    private static void finePartOutside() {
        Refusal.outside("20: finePart", Phasehall::lefts, (x, left) -> x.finePart(left));
        Phasehall x = Check.hall(11, 12, Edges.apart(11));
        Check.refused("20: a node to come", BOUNDS, () -> x.finePart(11));
        x.addLeft();
        Check.refused("20: a node that has come is not in the square part", ELEMENT, () -> x.finePart(11));
    }

    // "Throws NoSuchElementException if it is not in the square part"

    private static void finePartNotSquare() {
        Refusal.unchanged("20: the first free node", ELEMENT, Bound.NO_EDGES, x -> x.finePart(0));
        Refusal.unchanged("20: the last free node", ELEMENT, Bound.NO_EDGES, x -> x.finePart(11));
        Refusal.unchanged("20: no right node", ELEMENT, Bound.ONLY_LEFTS, x -> x.finePart(11));
        Refusal.unchanged("20: free beside the square part", ELEMENT, Bound.LAST_EDGE, x -> x.finePart(10));
        Refusal.unchanged("20: left-heavy and matched", ELEMENT, Bound.MORE_LEFTS, x -> x.finePart(0));
        Refusal.unchanged("20: left-heavy and free", ELEMENT, Bound.MORE_LEFTS, x -> x.finePart(11));
        Refusal.unchanged("20: right-heavy, the first one", ELEMENT, Bound.MORE_RIGHTS, x -> x.finePart(0));
        Refusal.unchanged("20: right-heavy, the last one", ELEMENT, Bound.MORE_RIGHTS, x -> x.finePart(10));
        Refusal.unchanged("20: left-heavy beside all parts", ELEMENT, Bound.ALL_PARTS, x -> x.finePart(1));
        Refusal.unchanged("20: right-heavy beside all parts", ELEMENT, Bound.ALL_PARTS, x -> x.finePart(5));
    }

    // ---- 21: "a left node, which may be the same; a node can be reached from itself"

    private static void leadsToItself() {
        Check.same("21: the only node", Bound.ONE_EDGE.make().leads(0, 0), true);
        Check.same("21: the last node alone", Bound.LAST_EDGE.make().leads(11, 11), true);
        Phasehall apart = Bound.APART.make();
        for (int from = 0; from < 12; from++) {
            for (int to = 0; to < 12; to++) {
                Check.same("21: apart, " + from + " to " + to, apart.leads(from, to), from == to);
            }
        }
    }

    // "Returns whether a left node can be reached from another one by leading, over any number of left nodes
    // of the square part."

    private static void leadsOverAll() {
        Phasehall rising = Bound.RISING.make();
        Phasehall falling = twelve(Edges.falling(12, 12));
        Phasehall ring = twelve(Edges.ring(12));
        Phasehall all = Bound.ALL_EDGES.make();
        for (int from = 0; from < 12; from++) {
            for (int to = 0; to < 12; to++) {
                String way = from + " to " + to;
                Check.same("21: rising, " + way, rising.leads(from, to), from <= to);
                Check.same("21: falling, " + way, falling.leads(from, to), from >= to);
                Check.same("21: a ring, " + way, ring.leads(from, to), true);
                Check.same("21: all edges, " + way, all.leads(from, to), true);
            }
        }
        Phasehall other = twelve(Edges.shifted(12) + " 0-0");
        Check.same("21: one step by the kept partners, not by numbers", other.leads(0, 11), true);
        Check.same("21: not back", other.leads(11, 0), false);
        Phasehall few = Check.hall(12, 3, "9-0 10-1 11-2 9-1 10-2");
        Check.same("21: the last three of 12 left nodes", few.leads(9, 11), true);
        Check.same("21: not back to the first of them", few.leads(11, 9), false);
        Phasehall many = Check.hall(3, 12, "0-9 1-10 2-11 2-10 1-9");
        Check.same("21: by the last three of 12 right nodes", many.leads(2, 0), true);
        Check.same("21: not back by them", many.leads(0, 2), false);
        Phasehall parts = Bound.ALL_PARTS.make();
        Check.same("21: from one fine part to the other", parts.leads(4, 3), true);
        Check.same("21: not back from the other", parts.leads(3, 4), false);
    }

    // "Throws IndexOutOfBoundsException if there is no such node"

    private static void leadsOutside() {
        Refusal.outside("21: leads", Phasehall::lefts, Phasehall::lefts, (x, from, to) -> x.leads(from, to));
    }

    // "Throws NoSuchElementException if one of both is not in the square part"

    private static void leadsNotSquare() {
        Refusal.unchanged("21: both free", ELEMENT, Bound.NO_EDGES, x -> x.leads(0, 11));
        Refusal.unchanged("21: the same free node", ELEMENT, Bound.NO_EDGES, x -> x.leads(11, 11));
        Refusal.unchanged("21: no right node", ELEMENT, Bound.ONLY_LEFTS, x -> x.leads(0, 0));
        Refusal.unchanged("21: from a free node", ELEMENT, Bound.LAST_EDGE, x -> x.leads(0, 11));
        Refusal.unchanged("21: to a free node", ELEMENT, Bound.LAST_EDGE, x -> x.leads(11, 0));
        Refusal.unchanged("21: both left-heavy", ELEMENT, Bound.MORE_LEFTS, x -> x.leads(0, 11));
        Refusal.unchanged("21: both right-heavy", ELEMENT, Bound.MORE_RIGHTS, x -> x.leads(0, 10));
        Refusal.unchanged("21: the same right-heavy node", ELEMENT, Bound.MORE_RIGHTS, x -> x.leads(10, 10));
        Refusal.unchanged("21: from left-heavy to square", ELEMENT, Bound.ALL_PARTS, x -> x.leads(1, 2));
        Refusal.unchanged("21: from square to left-heavy", ELEMENT, Bound.ALL_PARTS, x -> x.leads(4, 1));
        Refusal.unchanged("21: from right-heavy to square", ELEMENT, Bound.ALL_PARTS, x -> x.leads(5, 4));
        Refusal.unchanged("21: from square to right-heavy", ELEMENT, Bound.ALL_PARTS, x -> x.leads(4, 5));
        Refusal.unchanged("21: from left-heavy to right-heavy", ELEMENT, Bound.ALL_PARTS, x -> x.leads(0, 5));
        Refusal.unchanged("21: from right-heavy to left-heavy", ELEMENT, Bound.ALL_PARTS, x -> x.leads(5, 0));
    }

    // "If several exceptions apply, the one that is documented first is thrown."

    private static void leadsWithTwoExceptions() {
        int[] notSquare = {0, 1, 5};
        int[] noNodes = {Integer.MIN_VALUE, -1, 6, 11, 12, 32, Integer.MAX_VALUE};
        for (int node : notSquare) {
            for (int none : noNodes) {
                String what = "21: no such node and one outside the square part, ";
                Refusal.unchanged(what + "to " + none, BOUNDS, Bound.ALL_PARTS, x -> x.leads(node, none));
                Refusal.unchanged(what + "from " + none, BOUNDS, Bound.ALL_PARTS, x -> x.leads(none, node));
            }
        }
    }
}
