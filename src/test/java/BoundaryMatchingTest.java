import java.util.NoSuchElementException;

/** Promises 10 to 12 at their bounds: no matched edge, all nodes matched, first and last nodes, free nodes. */
public final class BoundaryMatchingTest {
    private static final Class<IndexOutOfBoundsException> BOUNDS = IndexOutOfBoundsException.class;
    private static final Class<IllegalStateException> STATE = IllegalStateException.class;
    private static final Class<NoSuchElementException> ELEMENT = NoSuchElementException.class;

    public static void main(String[] args) {
        sizeOfNothing();
        sizeOfAll();
        sizeAfterRefusals();
        partnerOfLeft();
        partnerOfLeftOutside();
        partnerOfFreeLeft();
        partnerOfRight();
        partnerOfRightOutside();
        partnerOfFreeRight();
        Check.end("BoundaryMatchingTest");
    }

    // ---- 10: "Returns the number of edges of the kept matching."

    private static void sizeOfNothing() {
        Check.same("10: no nodes", Bound.NO_NODES.make().size(), 0);
        Check.same("10: no right node", Bound.ONLY_LEFTS.make().size(), 0);
        Check.same("10: no left node", Bound.ONLY_RIGHTS.make().size(), 0);
        Check.same("10: no edge", Bound.NO_EDGES.make().size(), 0);
        Phasehall x = Bound.ONE_EDGE.make();
        Check.same("10: one edge", x.size(), 1);
        x.disconnect(0, 0);
        Check.same("10: no edge again", x.size(), 0);
        x.rebuild();
        Check.same("10: nothing rebuilt", x.size(), 0);
    }

    private static void sizeOfAll() {
        Check.same("10: all edges", Bound.ALL_EDGES.make().size(), 12);
        Check.same("10: 12 edges apart", Bound.APART.make().size(), 12);
        Check.same("10: 12 and 11 nodes", Bound.MORE_LEFTS.make().size(), 11);
        Check.same("10: 11 and 12 nodes", Bound.MORE_RIGHTS.make().size(), 11);
        Check.same("10: 12 nodes and 1", Bound.ONE_RIGHT.make().size(), 1);
        Check.same("10: 1 node and 12", Bound.ONE_LEFT.make().size(), 1);
        Check.same("10: 12 edges at one right node", Check.hall(12, 12, Edges.star(12, 11)).size(), 1);
        Check.same("10: 12 edges at one left node", Check.hall(12, 12, Edges.turnedStar(11, 12)).size(), 1);
        Phasehall x = Bound.NO_EDGES.make();
        for (int node = 11; node >= 0; node--) {
            x.connect(node, 11 - node);
            Check.same("10: one more each time", x.size(), 12 - node);
        }
        for (int node = 11; node >= 0; node--) {
            x.disconnect(node, 11 - node);
            Check.same("10: one less each time", x.size(), node);
        }
    }

    private static void sizeAfterRefusals() {
        Phasehall x = Bound.APART.make();
        Check.refused("10: connect", STATE, () -> x.connect(0, 0));
        Check.refused("10: disconnect", ELEMENT, () -> x.disconnect(0, 1));
        Check.refused("10: addLeft", STATE, () -> x.addLeft());
        Check.refused("10: partnerOfLeft", BOUNDS, () -> x.partnerOfLeft(12));
        Check.same("10: after refusals", x.size(), 12);
    }

    // ---- 11: "Returns the partner of a left node in the kept matching." "Returns its partner."

    private static void partnerOfLeft() {
        Check.same("11: the only node", Bound.ONE_EDGE.make().partnerOfLeft(0), 0);
        Phasehall turned = Check.hall(12, 12, "0-11 11-0");
        Check.same("11: the last one for the first node", turned.partnerOfLeft(0), 11);
        Check.same("11: the first one for the last node", turned.partnerOfLeft(11), 0);
        Phasehall all = Bound.APART.make();
        for (int node = 0; node < 12; node++) {
            Check.same("11: all nodes matched", all.partnerOfLeft(node), node);
        }
        all.disconnect(11, 11);
        all.disconnect(0, 0);
        all.connect(11, 0);
        Check.same("11: another partner", all.partnerOfLeft(11), 0);
        all.connect(0, 11);
        Check.same("11: the kept one, not the lowest one", all.partnerOfLeft(0), 11);
    }

    // "Throws IndexOutOfBoundsException if there is no such node"

    private static void partnerOfLeftOutside() {
        Refusal.outside("11: partnerOfLeft", Phasehall::lefts, (x, left) -> x.partnerOfLeft(left));
        Phasehall x = Check.hall(11, 12, "");
        Check.refused("11: a node to come", BOUNDS, () -> x.partnerOfLeft(11));
        x.addLeft();
        Check.refused("11: a node that has come is free", ELEMENT, () -> x.partnerOfLeft(11));
    }

    // "Throws NoSuchElementException if it is free"

    private static void partnerOfFreeLeft() {
        Refusal.unchanged("11: no edge at the first node", ELEMENT, Bound.NO_EDGES, x -> x.partnerOfLeft(0));
        Refusal.unchanged("11: no edge at the last node", ELEMENT, Bound.NO_EDGES, x -> x.partnerOfLeft(11));
        Refusal.unchanged("11: no right node", ELEMENT, Bound.ONLY_LEFTS, x -> x.partnerOfLeft(11));
        Refusal.unchanged("11: all but the last node free", ELEMENT, Bound.LAST_EDGE, x -> x.partnerOfLeft(10));
        Refusal.unchanged("11: free in spite of an edge", ELEMENT, Bound.ALL_PARTS, x -> x.partnerOfLeft(1));
        Phasehall x = Bound.APART.make();
        for (int node = 0; node < 12; node++) {
            int left = node;
            x.disconnect(left, left);
            Check.refused("11: free when its edge has gone", ELEMENT, () -> x.partnerOfLeft(left));
        }
        Phasehall star = Check.hall(12, 1, Edges.star(12, 0));
        for (int node = 1; node < 12; node++) {
            int left = node;
            Check.refused("11: one partner for one node", ELEMENT, () -> star.partnerOfLeft(left));
        }
        Check.same("11: the one node", star.partnerOfLeft(0), 0);
    }

    // ---- 12: "Returns the partner of a right node in the kept matching." "Returns its partner."

    private static void partnerOfRight() {
        Check.same("12: the only node", Bound.ONE_EDGE.make().partnerOfRight(0), 0);
        Phasehall turned = Check.hall(12, 12, "0-11 11-0");
        Check.same("12: the last one for the first node", turned.partnerOfRight(0), 11);
        Check.same("12: the first one for the last node", turned.partnerOfRight(11), 0);
        Phasehall all = Bound.APART.make();
        for (int node = 0; node < 12; node++) {
            Check.same("12: all nodes matched", all.partnerOfRight(node), node);
        }
        all.disconnect(11, 11);
        all.disconnect(0, 0);
        all.connect(11, 0);
        Check.same("12: another partner", all.partnerOfRight(0), 11);
        all.connect(0, 11);
        Check.same("12: the kept one, not the lowest one", all.partnerOfRight(11), 0);
    }

    // "Throws IndexOutOfBoundsException if there is no such node"

    private static void partnerOfRightOutside() {
        Refusal.outside("12: partnerOfRight", Phasehall::rights, (x, right) -> x.partnerOfRight(right));
        Phasehall x = Check.hall(12, 11, "");
        Check.refused("12: a node to come", BOUNDS, () -> x.partnerOfRight(11));
        x.addRight();
        Check.refused("12: a node that has come is free", ELEMENT, () -> x.partnerOfRight(11));
    }

    // "Throws NoSuchElementException if it is free"

    private static void partnerOfFreeRight() {
        Refusal.unchanged("12: no edge at the first node", ELEMENT, Bound.NO_EDGES, x -> x.partnerOfRight(0));
        Refusal.unchanged("12: no edge at the last node", ELEMENT, Bound.NO_EDGES, x -> x.partnerOfRight(11));
        Refusal.unchanged("12: no left node", ELEMENT, Bound.ONLY_RIGHTS, x -> x.partnerOfRight(11));
        Refusal.unchanged("12: all but the last node free", ELEMENT, Bound.LAST_EDGE, x -> x.partnerOfRight(10));
        Refusal.unchanged("12: free in spite of an edge", ELEMENT, Bound.ALL_PARTS, x -> x.partnerOfRight(5));
        Phasehall x = Bound.APART.make();
        for (int node = 0; node < 12; node++) {
            int right = node;
            x.disconnect(right, right);
            Check.refused("12: free when its edge has gone", ELEMENT, () -> x.partnerOfRight(right));
        }
        Phasehall star = Check.hall(1, 12, Edges.turnedStar(0, 12));
        for (int node = 1; node < 12; node++) {
            int right = node;
            Check.refused("12: one partner for one node", ELEMENT, () -> star.partnerOfRight(right));
        }
        Check.same("12: the one node", star.partnerOfRight(0), 0);
    }
}
