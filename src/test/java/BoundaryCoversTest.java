/** Promises 25 to 28 at their bounds: no node and all nodes of a side covered, one cover and most, least excess. */
public final class BoundaryCoversTest {
    private static final Class<IndexOutOfBoundsException> BOUNDS = IndexOutOfBoundsException.class;

    public static void main(String[] args) {
        nothingCovered();
        oneSideCovered();
        bothSidesCovered();
        leftCoverIsLeast();
        coversLeftOutside();
        coversRightOutside();
        oneLeastCover();
        moreLeastCovers();
        noExcess();
        greatestExcess();
        Check.end("BoundaryCoversTest");
    }

    private static Phasehall twelve(String edges) {
        return Check.hall(12, 12, edges);
    }

    private static String covered(Phasehall x) {
        int lefts = x.lefts();
        int rights = x.rights();
        StringBuilder text = new StringBuilder();
        for (int left = 0; left < lefts; left++) {
            text.append(x.coversLeft(left) ? 'x' : '.');
        }
        text.append('|');
        for (int right = 0; right < rights; right++) {
            text.append(x.coversRight(right) ? 'x' : '.');
        }
        return text.toString();
    }

    // ---- 25, 26: "Returns whether a left node is in the left cover." "Returns whether a right node is in .."

    private static void nothingCovered() {
        Check.same("25, 26: no nodes", covered(Bound.NO_NODES.make()), "|");
        Check.same("25: no right node", covered(Bound.ONLY_LEFTS.make()), "............|");
        Check.same("26: no left node", covered(Bound.ONLY_RIGHTS.make()), "|............");
        Check.same("25, 26: no edge", covered(Bound.NO_EDGES.make()), "............|............");
        Phasehall x = Bound.ONE_EDGE.make();
        x.disconnect(0, 0);
        Check.same("25, 26: no edge any more", covered(x), ".|.");
    }

    private static void oneSideCovered() {
        Check.same("25, 26: one edge", covered(Bound.ONE_EDGE.make()), "x|.");
        Check.same("25: all left nodes, all edges", covered(Bound.ALL_EDGES.make()), "xxxxxxxxxxxx|............");
        Check.same("25: all left nodes, apart", covered(Bound.APART.make()), "xxxxxxxxxxxx|............");
        Check.same("25: all left nodes, right-heavy", covered(Bound.MORE_RIGHTS.make()), "xxxxxxxxxxx|............");
        Check.same("26: all right nodes, left-heavy", covered(Bound.MORE_LEFTS.make()), "............|xxxxxxxxxxx");
        Check.same("25: asked first", Bound.ALL_EDGES.make().coversLeft(11), true);
        Check.same("26: asked first", Bound.MORE_LEFTS.make().coversRight(10), true);
        Check.same("26: asked first of a square part", Bound.ALL_EDGES.make().coversRight(11), false);
        Check.same("25: the last left node with one right node", covered(Bound.ONE_RIGHT.make()), "...........x|.");
        Check.same("25: one left node with the last right node", covered(Bound.ONE_LEFT.make()), "x|............");
        Check.same("25: the last left node", covered(Bound.LAST_EDGE.make()), "...........x|............");
        Check.same("25: the first left node", covered(twelve("0-0")), "x...........|............");
        Check.same("26: the last right node", covered(twelve(Edges.star(12, 11))), "............|...........x");
        Check.same("26: the first right node", covered(twelve(Edges.star(12, 0))), "............|x...........");
        Check.same("26: right nodes far from the free left node",
            covered(Check.hall(12, 11, Edges.falling(12, 11))), "............|xxxxxxxxxxx");
    }

    private static void bothSidesCovered() {
        Check.same("25, 26: all parts", covered(Bound.ALL_PARTS.make()), "..xxxx|x.....");
    }

    /** "it is a least cover": it covers every edge, and has as many nodes as a largest matching has edges. */
    private static void leftCoverIsLeast() {
        for (Bound bound : Bound.values()) {
            Phasehall x = bound.make();
            String cover = covered(x);
            int lefts = x.lefts();
            int rights = x.rights();
            for (int left = 0; left < lefts; left++) {
                for (int right = 0; right < rights; right++) {
                    boolean ends = cover.charAt(left) == 'x' || cover.charAt(lefts + 1 + right) == 'x';
                    Check.same("25, 26: an end of every edge (" + bound + ")", ends || !x.hasEdge(left, right), true);
                }
            }
            Check.same("25, 26: fewest nodes (" + bound + ")", cover.replaceAll("[^x]", "").length(), x.size());
        }
    }

    // "Throws IndexOutOfBoundsException if there is no such node"

    private static void coversLeftOutside() {
        Refusal.outside("25: coversLeft", Phasehall::lefts, (x, left) -> x.coversLeft(left));
        Phasehall x = Check.hall(11, 12, "");
        Check.refused("25: a node to come", BOUNDS, () -> x.coversLeft(11));
        x.addLeft();
        Check.same("25: a node that has come", x.coversLeft(11), false);
    }

    private static void coversRightOutside() {
        Refusal.outside("26: coversRight", Phasehall::rights, (x, right) -> x.coversRight(right));
        Phasehall x = Check.hall(12, 11, "");
        Check.refused("26: a node to come", BOUNDS, () -> x.coversRight(11));
        x.addRight();
        Check.same("26: a node that has come", x.coversRight(11), false);
    }

    // ---- 27: "Returns how many least covers there are; 1 if there are no edges (the empty one)."

    private static void oneLeastCover() {
        Bound[] one = {Bound.NO_NODES, Bound.ONLY_LEFTS, Bound.ONLY_RIGHTS, Bound.NO_EDGES, Bound.MORE_LEFTS,
            Bound.MORE_RIGHTS};
        for (Bound bound : one) {
            Check.same("27: one (" + bound + ")", bound.make().leastCovers(), 1);
        }
        Check.same("27: one right node for all", twelve(Edges.star(12, 11)).leastCovers(), 1);
        Check.same("27: one left node for all", twelve(Edges.turnedStar(11, 12)).leastCovers(), 1);
        Check.same("27: far from the free left node", Check.hall(12, 11, Edges.falling(12, 11)).leastCovers(), 1);
        Phasehall x = Bound.ONE_EDGE.make();
        Check.same("27: either end", x.leastCovers(), 2);
        Check.same("27: asked again", x.leastCovers(), 2);
        x.disconnect(0, 0);
        Check.same("27: no edge any more", x.leastCovers(), 1);
    }

    private static void moreLeastCovers() {
        Check.same("27: one edge", Bound.ONE_EDGE.make().leastCovers(), 2);
        Check.same("27: the last edge", Bound.LAST_EDGE.make().leastCovers(), 2);
        Check.same("27: the last left node with one right node", Bound.ONE_RIGHT.make().leastCovers(), 2);
        Check.same("27: one left node with the last right node", Bound.ONE_LEFT.make().leastCovers(), 2);
        Check.same("27: all edges, one side or the other", Bound.ALL_EDGES.make().leastCovers(), 2);
        Check.same("27: a ring", twelve(Edges.ring(12)).leastCovers(), 2);
        Check.same("27: 12 apart, any end of each", Bound.APART.make().leastCovers(), 4096);
        // The left ends up to some node, and the right ends behind it.
        Check.same("27: rising", Bound.RISING.make().leastCovers(), 13);
        Check.same("27: all parts, by the two fine parts", Bound.ALL_PARTS.make().leastCovers(), 3);
    }

    // ---- 28: "Returns the greatest excess of a set of left nodes: how many more nodes the set has than there are
    // right nodes with an edge to some node of the set. The empty set counts, too."

    private static void noExcess() {
        Bound[] none = {Bound.NO_NODES, Bound.ONLY_RIGHTS, Bound.ONE_EDGE, Bound.ONE_LEFT, Bound.APART,
            Bound.RISING, Bound.ALL_EDGES, Bound.MORE_RIGHTS};
        for (Bound bound : none) {
            Check.same("28: the empty set's (" + bound + ")", bound.make().greatestExcess(), 0);
        }
        Check.same("28: every other set has less", Check.complete(1, 12).greatestExcess(), 0);
    }

    private static void greatestExcess() {
        Check.same("28: no right node", Bound.ONLY_LEFTS.make().greatestExcess(), 12);
        Check.same("28: no edge", Bound.NO_EDGES.make().greatestExcess(), 12);
        Check.same("28: all but the last left node", Bound.LAST_EDGE.make().greatestExcess(), 11);
        Check.same("28: one right node for all", twelve(Edges.star(12, 11)).greatestExcess(), 11);
        Check.same("28: all but one left node", twelve(Edges.turnedStar(11, 12)).greatestExcess(), 11);
        Check.same("28: all but the last left node, one right node", Bound.ONE_RIGHT.make().greatestExcess(), 11);
        Check.same("28: one more left node", Bound.MORE_LEFTS.make().greatestExcess(), 1);
        Check.same("28: the left-heavy part", Bound.ALL_PARTS.make().greatestExcess(), 1);
        // Two left nodes for one right node, while the other ten have a right node more than they need.
        Check.same("28: a small set", Check.hall(12, 12, "0-0 1-0 " + allFrom2()).greatestExcess(), 1);
        Phasehall x = Bound.ONE_EDGE.make();
        x.disconnect(0, 0);
        Check.same("28: no edge any more", x.greatestExcess(), 1);
    }

    private static String allFrom2() {
        StringBuilder text = new StringBuilder("2-1");
        for (int left = 2; left < 12; left++) {
            for (int right = left == 2 ? 2 : 1; right < 12; right++) {
                text.append(' ').append(left).append('-').append(right);
            }
        }
        return text.toString();
    }
}
