/** Promises 13 to 16: phases. */
public final class PhasesTest {
    private static final Class<IndexOutOfBoundsException> BOUNDS = IndexOutOfBoundsException.class;

    public static void main(String[] args) {
        phases();
        takenNodes();
        phaseArguments();
        rebuild();
        Check.end("PhasesTest");
    }

    private static void phases() {
        Check.same("13: no nodes", new Phasehall().phases(), 0);
        Check.same("13: no edges", Check.hall(3, 3, "").phases(), 0);
        Check.same("13: one phase is enough", Check.phases(Check.complete(12, 12)), "0:12");
        // 0 takes 0 and 1 has nothing else, so the second phase goes 1-0-0-1.
        Phasehall x = Check.hall(2, 2, "1-0 0-0 0-1");
        Check.same("14, 15: two phases", Check.phases(x), "0:1 1:1");
        Check.same("13: the kept matching does not change", Check.partners(x), "1 0");
        // Two paths of the same depth belong to one phase.
        Check.same("14, 15: two paths", Check.phases(Check.hall(4, 4, "0-0 0-1 1-0 2-2 2-3 3-2")), "0:2 1:2");
        // The only path left is of depth 2.
        Check.same("14: a depth passed over", Check.phases(Check.hall(3, 3, "0-0 0-1 1-1 1-2 2-0")), "0:2 2:1");
        // Three phases of depths 0, 1 and 2.
        Check.same("13: three phases",
            Check.phases(Check.hall(5, 5, "0-0 0-1 1-0 2-2 2-3 3-3 3-4 4-2")), "0:3 1:1 2:1");
        Phasehall y = Check.hall(2, 2, "0-0");
        Check.same("13: before", Check.phases(y), "0:1");
        y.connect(1, 0);
        Check.same("13: an edge of no use", Check.phases(y), "0:1");
        y.connect(0, 1);
        Check.same("13: from nothing each time", Check.phases(y), "0:1 1:1");
        y.disconnect(0, 0);
        Check.same("13: after disconnect", Check.phases(y), "0:2");
    }

    private static void takenNodes() {
        // Both 1 and 2 want the way over 0, which is taken by 1 for the whole phase.
        Phasehall x = Check.hall(3, 3, "0-0 0-1 0-2 1-0 2-0");
        Check.same("13: taken for the whole phase", Check.phases(x), "0:1 1:1");
        x.rebuild();
        Check.same("16: the first one finds its partner", Check.partners(x), "1 0 -");
        // 2 takes 0 in vain, so that 0 stays taken; then it takes 1 and gets it.
        Phasehall y = Check.hall(3, 3, "0-0 1-1 1-2 2-0 2-1");
        Check.same("13: the next right node is tried", Check.phases(y), "0:2 1:1");
        y.rebuild();
        Check.same("16: the next right node is the partner", Check.partners(y), "0 2 1");
        // 4 finds its partner only when all the others move on.
        Phasehall z = Check.hall(5, 5, "0-0 0-1 1-1 1-2 2-2 2-3 3-3 3-4 4-0");
        Check.same("14: a long way", Check.phases(z), "0:4 4:1");
    }

    private static void phaseArguments() {
        Phasehall x = Check.hall(2, 2, "1-0 0-0 0-1");
        Check.same("14: depthOf(0)", x.depthOf(0), 0);
        Check.same("14: depthOf(1)", x.depthOf(1), 1);
        Check.same("15: pathsOf(0)", x.pathsOf(0), 1);
        Check.same("15: pathsOf(1)", x.pathsOf(1), 1);
        Check.refused("14: -1", BOUNDS, () -> x.depthOf(-1));
        Check.refused("14: 2", BOUNDS, () -> x.depthOf(2));
        Check.refused("14: 12", BOUNDS, () -> x.depthOf(12));
        Check.refused("14: greatest int", BOUNDS, () -> x.depthOf(Integer.MAX_VALUE));
        Check.refused("15: -1", BOUNDS, () -> x.pathsOf(-1));
        Check.refused("15: 2", BOUNDS, () -> x.pathsOf(2));
        Check.refused("15: 12", BOUNDS, () -> x.pathsOf(12));
        Check.refused("15: greatest int", BOUNDS, () -> x.pathsOf(Integer.MAX_VALUE));
        Phasehall none = Check.hall(2, 2, "");
        Check.refused("14: no phase", BOUNDS, () -> none.depthOf(0));
        Check.refused("15: no phase", BOUNDS, () -> none.pathsOf(0));
        // A phase that an edge has brought goes with it.
        x.disconnect(0, 1);
        Check.refused("14: a phase that was", BOUNDS, () -> x.depthOf(1));
        Check.refused("15: a phase that was", BOUNDS, () -> x.pathsOf(1));
        Check.same("14: the kept matching does not change", Check.partners(x), "- 0");
    }

    private static void rebuild() {
        Check.same("16: no nodes", new Phasehall().rebuild(), 0);
        Phasehall x = Check.hall(2, 2, "0-1 1-0 0-0 1-1");
        Check.same("16: kept before", Check.partners(x), "1 0");
        Check.same("16: two have another partner", x.rebuild(), 2);
        Check.same("16: kept after", Check.partners(x), "0 1");
        Check.same("16: again", x.rebuild(), 0);
        Check.same("16: edges stay", x.edges(), 4);
        // The kept matching frees 0, the phases free 1.
        Phasehall y = Check.hall(2, 1, "1-0 0-0");
        Check.same("16: before", Check.partners(y), "- 0");
        Check.same("16: one has none, one has one", y.rebuild(), 2);
        Check.same("16: after", Check.partners(y), "0 -");
        Check.same("16: size stays", y.size(), 1);
        Check.same("16: partner of the right node", y.partnerOfRight(0), 0);
        Phasehall z = Check.hall(1, 3, "0-2 0-1");
        Check.same("16: one changes", z.rebuild(), 1);
        Check.same("16: the lowest right node", Check.partners(z), "1");
        Check.refused("16: the right node before is free", java.util.NoSuchElementException.class,
            () -> z.partnerOfRight(2));
        // Later changes go on from the rebuilt matching.
        Check.same("16: removing what is not matched any more", z.disconnect(0, 2), false);
        Check.same("16: removing what is matched", z.disconnect(0, 1), true);
    }
}
