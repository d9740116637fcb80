/** Promises 13 to 16 at their bounds: no phase, the first and the last one, no node rebuilt and all nodes. */
public final class BoundaryPhasesTest {
    private static final Class<IndexOutOfBoundsException> BOUNDS = IndexOutOfBoundsException.class;

    /** The longest way there is: the last left node finds a partner when all others move on. */
    private static final String LONGEST = Edges.rising(11, 12) + " 11-0";

    /** Five phases of the depths 0 to 4; after the first one a single free left node finds its way in each. */
    private static final String FIVE =
        "0-0 0-5 0-6 1-4 1-5 2-1 2-6 2-10 3-2 3-6 3-9 5-1 5-2 6-0 8-1 9-4 10-5 10-9 10-11";

    public static void main(String[] args) {
        noPhase();
        onePhase();
        morePhases();
        keptStays();
        depthOfFirstAndLast();
        depthOutside();
        pathsOfFirstAndLast();
        pathsOutside();
        rebuildNothing();
        rebuildAll();
        rebuildFreeNodes();
        Check.end("BoundaryPhasesTest");
    }

    private static Phasehall twelve(String edges) {
        return Check.hall(12, 12, edges);
    }

    // ---- 13: "Returns how many phases there are."

    private static void noPhase() {
        Check.same("13: no nodes", Bound.NO_NODES.make().phases(), 0);
        Check.same("13: no right node", Bound.ONLY_LEFTS.make().phases(), 0);
        Check.same("13: no left node", Bound.ONLY_RIGHTS.make().phases(), 0);
        Check.same("13: no edge", Bound.NO_EDGES.make().phases(), 0);
        Phasehall x = Bound.ONE_EDGE.make();
        Check.same("13: one edge", x.phases(), 1);
        x.disconnect(0, 0);
        Check.same("13: no edge any more", x.phases(), 0);
        Check.refused("14: no phase any more", BOUNDS, () -> x.depthOf(0));
        Check.refused("15: no phase any more", BOUNDS, () -> x.pathsOf(0));
    }

    private static void onePhase() {
        Check.same("13: one edge", Check.phases(Bound.ONE_EDGE.make()), "0:1");
        Check.same("13: the last edge", Check.phases(Bound.LAST_EDGE.make()), "0:1");
        Check.same("13: 12 edges apart", Check.phases(Bound.APART.make()), "0:12");
        Check.same("13: all edges", Check.phases(Bound.ALL_EDGES.make()), "0:12");
        Check.same("13: more left nodes", Check.phases(Bound.MORE_LEFTS.make()), "0:11");
        Check.same("13: more right nodes", Check.phases(Bound.MORE_RIGHTS.make()), "0:11");
        Check.same("13: the last left node and one right node", Check.phases(Bound.ONE_RIGHT.make()), "0:1");
        Check.same("13: one left node and the last right node", Check.phases(Bound.ONE_LEFT.make()), "0:1");
        Check.same("13: one right node for all", Check.phases(twelve(Edges.star(12, 11))), "0:1");
        Check.same("13: one left node for all", Check.phases(twelve(Edges.turnedStar(11, 12))), "0:1");
        // Left node 0 has an edge to the free right node 1, but no level: no free left node leads to it.
        Check.same("13: a left node without a level", Check.phases(Check.hall(2, 2, "0-0 0-1")), "0:1");
    }

    private static void morePhases() {
        Check.same("13: two phases", twelve(LONGEST).phases(), 2);
        Check.same("13: five phases", twelve(FIVE).phases(), 5);
        Check.same("13: the last two of 12 left nodes", Check.phases(Check.hall(12, 2, "10-0 10-1 11-0")), "0:1 1:1");
        Check.same("13: the last two of 12 right nodes", Check.phases(Check.hall(2, 12, "0-10 0-11 1-10")), "0:1 1:1");
        // Left node 0 passes over the right node 1, whose partner has the level of 0 itself; 5 needs it.
        Check.same("13: a partner of no higher level", Check.phases(Check.hall(6, 6,
            "0-0 0-1 0-2 1-1 1-3 2-2 2-4 3-3 3-5 4-0 5-1")), "0:4 2:2");
        Phasehall x = twelve(LONGEST);
        x.disconnect(10, 11);
        Check.same("13: the last phase has gone", x.phases(), 1);
        x.connect(10, 11);
        Check.same("13: the last phase is there again", x.phases(), 2);
    }

    // "The kept matching does not change."

    private static void keptStays() {
        Phasehall ring = twelve(Edges.shiftedRing(12));
        String kept = "1 2 3 4 5 6 7 8 9 10 11 0";
        Check.same("13: phases() of a matching that the phases do not build", ring.phases(), 1);
        Check.same("13: all 12 nodes keep their partners", Check.partners(ring), kept);
        ring.depthOf(0);
        Check.same("14: depthOf changes no partner", Check.partners(ring), kept);
        ring.pathsOf(0);
        Check.same("15: pathsOf changes no partner", Check.partners(ring), kept);
        Check.refused("14: no such phase", BOUNDS, () -> ring.depthOf(1));
        Check.refused("15: no such phase", BOUNDS, () -> ring.pathsOf(1));
        Check.same("14, 15: nor does a refusal", Check.partners(ring), kept);
        Check.same("13: size stays", ring.size(), 12);
        Phasehall none = Bound.NO_EDGES.make();
        none.phases();
        Check.same("13: the empty matching stays", Check.partners(none), "- - - - - - - - - - - -");
        Phasehall free = Check.hall(12, 1, "11-0 0-0");
        free.phases();
        Check.same("13: the free nodes stay", Check.partners(free), "- - - - - - - - - - - 0");
    }

    // ---- 14: "Returns the depth of a phase." "0 for the first one"

    private static void depthOfFirstAndLast() {
        Phasehall one = Bound.ONE_EDGE.make();
        Check.same("14: the only phase", one.depthOf(0), 0);
        Phasehall two = twelve(LONGEST);
        Check.same("14: the first of two", two.depthOf(0), 0);
        Check.same("14: the last of two, of the greatest depth", two.depthOf(1), 11);
        Phasehall five = twelve(FIVE);
        for (int phase = 0; phase < 5; phase++) {
            Check.same("14: phase " + phase + " of five", five.depthOf(phase), phase);
        }
        Check.same("14: the last of five first", twelve(FIVE).depthOf(4), 4);
        // Both a node of level 1 and one of level 2 have a free right node: the least level is the depth.
        Phasehall up = Check.hall(6, 6, "0-0 0-1 1-0 2-2 2-3 3-3 3-4 4-2");
        Check.same("14: the least level at a lower node", up.depthOf(1), 1);
        Check.same("14: the next level is for the next phase", up.depthOf(2), 2);
        Phasehall down = Check.hall(6, 6, "0-0 0-2 1-0 1-1 2-1 3-3 3-4 4-3");
        Check.same("14: the least level at a higher node", down.depthOf(1), 1);
        Check.same("14: the lower node is for the next phase", down.depthOf(2), 2);
    }

    // "Throws IndexOutOfBoundsException if there is no such phase"

    private static void depthOutside() {
        Refusal.outside("14: depthOf", Phasehall::phases, (x, phase) -> x.depthOf(phase));
        Phasehall two = twelve(LONGEST);
        Check.refused("14: one behind the last of two", BOUNDS, () -> two.depthOf(2));
        Check.refused("14: a depth is no phase", BOUNDS, () -> two.depthOf(11));
        Phasehall five = twelve(FIVE);
        Check.refused("14: one behind the last of five", BOUNDS, () -> five.depthOf(5));
        Check.refused("14: one before the first of five", BOUNDS, () -> five.depthOf(-1));
        two.disconnect(10, 11);
        Check.refused("14: a phase that has gone", BOUNDS, () -> two.depthOf(1));
        Check.same("14: the one that stays", two.depthOf(0), 0);
    }

    // ---- 15: "Returns the number of paths of a phase." "0 for the first one"

    private static void pathsOfFirstAndLast() {
        Check.same("15: the only phase", Bound.ONE_EDGE.make().pathsOf(0), 1);
        Check.same("15: the most paths", Bound.ALL_EDGES.make().pathsOf(0), 12);
        Phasehall two = twelve(LONGEST);
        Check.same("15: the first of two", two.pathsOf(0), 11);
        Check.same("15: the last of two", two.pathsOf(1), 1);
        Phasehall five = twelve(FIVE);
        Check.same("15: the first of five", five.pathsOf(0), 5);
        for (int phase = 1; phase < 5; phase++) {
            Check.same("15: phase " + phase + " of five", five.pathsOf(phase), 1);
        }
        Check.same("15: the last of five first", twelve(FIVE).pathsOf(4), 1);
        // Six times left nodes 2i, 2i+1 with 2i to both right nodes and 2i+1 to the first one alone.
        String pairs = "0-0 0-1 1-0 2-2 2-3 3-2 4-4 4-5 5-4 6-6 6-7 7-6 8-8 8-9 9-8 10-10 10-11 11-10";
        Check.same("15: the most paths of a second phase", Check.phases(twelve(pairs)), "0:6 1:6");
    }

    // "Throws IndexOutOfBoundsException if there is no such phase"

    private static void pathsOutside() {
        Refusal.outside("15: pathsOf", Phasehall::phases, (x, phase) -> x.pathsOf(phase));
        Phasehall two = twelve(LONGEST);
        Check.refused("15: one behind the last of two", BOUNDS, () -> two.pathsOf(2));
        Check.refused("15: a number of paths is no phase", BOUNDS, () -> two.pathsOf(11));
        Phasehall five = twelve(FIVE);
        Check.refused("15: one behind the last of five", BOUNDS, () -> five.pathsOf(5));
        Check.refused("15: one before the first of five", BOUNDS, () -> five.pathsOf(-1));
        two.disconnect(10, 11);
        Check.refused("15: a phase that has gone", BOUNDS, () -> two.pathsOf(1));
        Check.same("15: the one that stays", two.pathsOf(0), 11);
    }

    // ---- 16: "Replaces the kept matching by the one that the phases build."

    private static void rebuildNothing() {
        Bound[] without = {Bound.NO_NODES, Bound.ONLY_LEFTS, Bound.ONLY_RIGHTS, Bound.NO_EDGES, Bound.ONE_EDGE,
            Bound.LAST_EDGE, Bound.APART, Bound.RISING};
        for (Bound bound : without) {
            Phasehall x = bound.make();
            Check.same("16: no other matching to build (" + bound + ")", x.rebuild(), 0);
            Check.same("16: all stays (" + bound + ")", Refusal.answers(x), Refusal.answers(bound.make()));
        }
    }

    // "Returns how many left nodes have another partner than before .."

    private static void rebuildAll() {
        Phasehall ring = twelve(Edges.shiftedRing(12));
        Check.same("16: all 12 have another partner", ring.rebuild(), 12);
        Check.same("16: the one of the phases", Check.partners(ring), "0 1 2 3 4 5 6 7 8 9 10 11");
        Check.same("16: the same once more", ring.rebuild(), 0);
        Check.same("16: edges stay", ring.edges(), 24);
        Check.same("16: size stays", ring.size(), 12);
        Check.same("16: one that is not kept any more", ring.disconnect(11, 0), false);
        Check.same("16: one that is kept now", ring.disconnect(11, 11), true);
        Phasehall two = twelve("10-11 11-10 10-10 11-11 " + Edges.apart(10));
        Check.same("16: the last two alone", two.rebuild(), 2);
        Check.same("16: the others keep theirs", Check.partners(two), "0 1 2 3 4 5 6 7 8 9 10 11");
        Phasehall long12 = twelve(LONGEST);
        Check.same("16: by the last phase", long12.rebuild(), 0);
        Check.same("16: all nodes matched", Check.partners(long12), "1 2 3 4 5 6 7 8 9 10 11 0");
        Phasehall first = Check.hall(1, 12, "0-11 0-0");
        Check.same("16: the only left node", first.rebuild(), 1);
        Check.same("16: its lowest right node", first.partnerOfLeft(0), 0);
        Check.refused("16: its right node before", java.util.NoSuchElementException.class,
            () -> first.partnerOfRight(11));
    }

    // ".. or have one now and had none before, or the other way round."

    private static void rebuildFreeNodes() {
        Phasehall star = Check.hall(12, 1, "11-0 0-0 5-0");
        Check.same("16: one has one now, one has none now", star.rebuild(), 2);
        Check.same("16: the lowest one has it", Check.partners(star), "0 - - - - - - - - - - -");
        Phasehall half = Check.hall(12, 6, "6-0 7-1 8-2 9-3 10-4 11-5 " + Edges.apart(6));
        Check.same("16: before", Check.partners(half), "- - - - - - 0 1 2 3 4 5");
        Check.same("16: six have one now, six have none now", half.rebuild(), 12);
        Check.same("16: after", Check.partners(half), "0 1 2 3 4 5 - - - - - -");
        Check.same("16: none stays free and counts", half.rebuild(), 0);
    }
}
