import java.util.NoSuchElementException;

/** Promises 1 to 6 at their bounds: no node, 12 nodes, no edge, all edges, and the refused 13th node. */
public final class BoundaryNodesTest {
    private static final Class<IndexOutOfBoundsException> BOUNDS = IndexOutOfBoundsException.class;
    private static final Class<IllegalStateException> STATE = IllegalStateException.class;
    private static final Class<NoSuchElementException> ELEMENT = NoSuchElementException.class;

    public static void main(String[] args) {
        newObjectIsEmpty();
        newObjectHasNoNumber();
        newObjectsAreApart();
        addLeftReturnsNumbers();
        addLeftBringsNoEdge();
        addLeftIsRefused();
        addRightReturnsNumbers();
        addRightBringsNoEdge();
        addRightIsRefused();
        lefts();
        rights();
        edges();
        lastCall();
        Check.end("BoundaryNodesTest");
    }

    // "Creates a library without nodes."

    private static void newObjectIsEmpty() {
        Phasehall x = new Phasehall();
        Check.same("1: no left node", x.lefts(), 0);
        Check.same("1: no right node", x.rights(), 0);
        Check.same("1: no edge", x.edges(), 0);
        Check.same("1: the kept matching is empty", x.size(), 0);
        Check.same("1: no phase", x.phases(), 0);
        Check.same("1: nothing to rebuild", x.rebuild(), 0);
        Check.same("1: no fine part", x.fineParts(), 0);
        Check.same("1: the empty matching", x.largestMatchings(), 1L);
        Check.same("1: the empty cover", x.leastCovers(), 1);
        Check.same("1: the empty set's excess", x.greatestExcess(), 0);
        Check.same("1: the first left node", x.addLeft(), 0);
        Check.same("1: the first right node", x.addRight(), 0);
    }

    private static void newObjectHasNoNumber() {
        none("connect", x -> x.connect(0, 0));
        none("disconnect", x -> x.disconnect(0, 0));
        none("hasEdge", x -> x.hasEdge(0, 0));
        none("partnerOfLeft", x -> x.partnerOfLeft(0));
        none("partnerOfRight", x -> x.partnerOfRight(0));
        none("depthOf", x -> x.depthOf(0));
        none("pathsOf", x -> x.pathsOf(0));
        none("partOfLeft", x -> x.partOfLeft(0));
        none("partOfRight", x -> x.partOfRight(0));
        none("finePart", x -> x.finePart(0));
        none("leads", x -> x.leads(0, 0));
        none("isInSome", x -> x.isInSome(0, 0));
        none("isInAll", x -> x.isInAll(0, 0));
        none("coversLeft", x -> x.coversLeft(0));
        none("coversRight", x -> x.coversRight(0));
    }

    private static void none(String name, Refusal.Call call) {
        Refusal.unchanged("1: no node for " + name, BOUNDS, Bound.NO_NODES, call);
    }

    private static void newObjectsAreApart() {
        Phasehall full = Bound.ALL_EDGES.make();
        Check.same("1: without nodes beside a full one", Refusal.answers(new Phasehall()),
            Refusal.answers(Bound.NO_NODES.make()));
        Phasehall other = new Phasehall();
        Check.same("1: its numbers begin at 0", other.addLeft(), 0);
        Check.same("1: a full one stays full", full.edges(), 144);
        Check.same("1: and keeps its matching", full.size(), 12);
    }

    // "Adds a left node without edges." "Returns its number."

    private static void addLeftReturnsNumbers() {
        Phasehall alone = new Phasehall();
        Phasehall beside = Check.hall(0, 12, "");
        for (int left = 0; left < 12; left++) {
            Check.same("2: number " + left + " without right nodes", alone.addLeft(), left);
            Check.same("2: number " + left + " with 12 right nodes", beside.addLeft(), left);
        }
    }

    private static void addLeftBringsNoEdge() {
        Phasehall x = Bound.MORE_RIGHTS.make();
        String before = Check.partners(x);
        Check.same("2: the 12th left node", x.addLeft(), 11);
        for (int right = 0; right < 12; right++) {
            Check.same("2: without an edge to " + right, x.hasEdge(11, right), false);
        }
        Check.same("2: all edges stay", x.edges(), 132);
        Check.same("2: it is free, and the kept matching stays", Check.partners(x), before + " -");
        Check.same("2: it is left-heavy", x.partOfLeft(11), 0);
        Check.same("2: it is a set with an excess", x.greatestExcess(), 1);
        Phasehall first = Check.hall(0, 12, "");
        first.addLeft();
        for (int right = 0; right < 12; right++) {
            Check.same("2: the first one without an edge to " + right, first.hasEdge(0, right), false);
        }
    }

    // "Throws IllegalStateException if there are 12 left nodes"

    private static void addLeftIsRefused() {
        Refusal.unchanged("2: a 13th left node without right nodes", STATE, Bound.ONLY_LEFTS, x -> x.addLeft());
        Refusal.unchanged("2: a 13th left node without edges", STATE, Bound.NO_EDGES, x -> x.addLeft());
        Refusal.unchanged("2: a 13th left node with all edges", STATE, Bound.ALL_EDGES, x -> x.addLeft());
        Refusal.unchanged("2: a 13th left node with 11 right nodes", STATE, Bound.MORE_LEFTS, x -> x.addLeft());
        Check.same("2: 12 right nodes refuse no left node", Bound.ONLY_RIGHTS.make().addLeft(), 0);
        Check.same("2: 11 left nodes refuse no left node", Bound.MORE_RIGHTS.make().addLeft(), 11);
        Phasehall x = Bound.MORE_LEFTS.make();
        Check.refused("2: a 13th left node", STATE, () -> x.addLeft());
        Check.same("2: a right node after the refusal", x.addRight(), 11);
        Check.same("2: an edge after the refusal", x.connect(11, 11), true);
    }

    // "Adds a right node without edges." "Returns its number."

    private static void addRightReturnsNumbers() {
        Phasehall alone = new Phasehall();
        Phasehall beside = Check.hall(12, 0, "");
        for (int right = 0; right < 12; right++) {
            Check.same("3: number " + right + " without left nodes", alone.addRight(), right);
            Check.same("3: number " + right + " with 12 left nodes", beside.addRight(), right);
        }
    }

    private static void addRightBringsNoEdge() {
        Phasehall x = Bound.MORE_LEFTS.make();
        String before = Check.partners(x);
        Check.same("3: the 12th right node", x.addRight(), 11);
        for (int left = 0; left < 12; left++) {
            Check.same("3: without an edge to " + left, x.hasEdge(left, 11), false);
        }
        Check.same("3: all edges stay", x.edges(), 132);
        Check.same("3: the kept matching stays", Check.partners(x), before);
        Check.same("3: it is right-heavy", x.partOfRight(11), 2);
        Phasehall first = Check.hall(12, 0, "");
        first.addRight();
        for (int left = 0; left < 12; left++) {
            Check.same("3: the first one without an edge to " + left, first.hasEdge(left, 0), false);
        }
    }

    // "Throws IllegalStateException if there are 12 right nodes"

    private static void addRightIsRefused() {
        Refusal.unchanged("3: a 13th right node without left nodes", STATE, Bound.ONLY_RIGHTS, x -> x.addRight());
        Refusal.unchanged("3: a 13th right node without edges", STATE, Bound.NO_EDGES, x -> x.addRight());
        Refusal.unchanged("3: a 13th right node with all edges", STATE, Bound.ALL_EDGES, x -> x.addRight());
        Refusal.unchanged("3: a 13th right node with 11 left nodes", STATE, Bound.MORE_RIGHTS, x -> x.addRight());
        Check.same("3: 12 left nodes refuse no right node", Bound.ONLY_LEFTS.make().addRight(), 0);
        Check.same("3: 11 right nodes refuse no right node", Bound.MORE_LEFTS.make().addRight(), 11);
        Phasehall x = Bound.MORE_RIGHTS.make();
        Check.refused("3: a 13th right node", STATE, () -> x.addRight());
        Check.same("3: a left node after the refusal", x.addLeft(), 11);
        Check.same("3: an edge after the refusal", x.connect(11, 11), true);
    }

    // "Returns the number of left nodes."

    private static void lefts() {
        Phasehall x = Check.hall(0, 12, "");
        Check.same("4: none beside 12 right nodes", x.lefts(), 0);
        for (int count = 1; count <= 12; count++) {
            x.addLeft();
            Check.same("4: " + count, x.lefts(), count);
        }
        Check.refused("4: a 13th left node", STATE, () -> x.addLeft());
        Check.same("4: 12 after a refusal", x.lefts(), 12);
        Check.same("4: 12 with all edges", Bound.ALL_EDGES.make().lefts(), 12);
        Check.same("4: 11 beside 12", Bound.MORE_RIGHTS.make().lefts(), 11);
    }

    // "Returns the number of right nodes."

    private static void rights() {
        Phasehall x = Check.hall(12, 0, "");
        Check.same("5: none beside 12 left nodes", x.rights(), 0);
        for (int count = 1; count <= 12; count++) {
            x.addRight();
            Check.same("5: " + count, x.rights(), count);
        }
        Check.refused("5: a 13th right node", STATE, () -> x.addRight());
        Check.same("5: 12 after a refusal", x.rights(), 12);
        Check.same("5: 12 with all edges", Bound.ALL_EDGES.make().rights(), 12);
        Check.same("5: 11 beside 12", Bound.MORE_LEFTS.make().rights(), 11);
    }

    // "Returns the number of edges."

    private static void edges() {
        Check.same("6: no left node", Bound.ONLY_RIGHTS.make().edges(), 0);
        Check.same("6: no right node", Bound.ONLY_LEFTS.make().edges(), 0);
        Phasehall x = Bound.NO_EDGES.make();
        int due = 0;
        for (int left = 0; left < 12; left++) {
            x.connect(left, 11);
            x.connect(left, 0);
            due += 2;
            Check.same("6: matched and unmatched edges", x.edges(), due);
        }
        Check.refused("6: an edge that is there", STATE, () -> x.connect(11, 11));
        Check.refused("6: an edge that is not there", ELEMENT, () -> x.disconnect(11, 1));
        Check.same("6: the same after refusals", x.edges(), 24);
        for (int left = 0; left < 12; left++) {
            x.disconnect(left, 0);
            x.disconnect(left, 11);
            due -= 2;
            Check.same("6: matched and unmatched edges removed", x.edges(), due);
        }
        Check.same("6: all edges", Bound.ALL_EDGES.make().edges(), 144);
    }

    // "An object is used for at most 512 calls after it has been made"

    private static void lastCall() {
        Phasehall x = Bound.ALL_EDGES.make();
        int calls = 12 + 12 + 144;
        while (calls < 510) {
            x.disconnect(calls % 12, calls / 12 % 12);
            x.connect(calls % 12, calls / 12 % 12);
            calls += 2;
        }
        Check.same("6: the 511th call", x.edges(), 144);
        Check.same("24: the 512th call", x.largestMatchings(), 479001600L);
    }
}
