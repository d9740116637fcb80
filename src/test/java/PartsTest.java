import java.util.NoSuchElementException;

/** Promises 17 to 24: parts, fine parts and what all largest matchings share. */
public final class PartsTest {
    private static final Class<IndexOutOfBoundsException> BOUNDS = IndexOutOfBoundsException.class;
    private static final Class<NoSuchElementException> ELEMENT = NoSuchElementException.class;

    /**
     * Lefts 0, 1 and right 0 are left-heavy; lefts 2, 3, 4 and rights 1, 2, 3 are square, with the fine
     * parts {2, 3} and {4}; left 5 and rights 4, 5 are right-heavy. Edges 4-0, 5-0, 4-1 and 5-3 go across.
     */
    private static final String MIXED = "0-0 1-0 2-1 2-2 3-1 3-2 4-3 5-4 5-5 4-0 5-0 4-1 5-3";

    public static void main(String[] args) {
        parts();
        partArguments();
        fineParts();
        finePart();
        leads();
        isInSome();
        isInAll();
        largestMatchings();
        Check.end("PartsTest");
    }

    private static Phasehall mixed() {
        return Check.hall(6, 6, MIXED);
    }

    private static void parts() {
        Check.same("17, 18: no edges", Check.parts(Check.hall(2, 3, "")), "00|222");
        Check.same("17, 18: one edge", Check.parts(Check.hall(1, 1, "0-0")), "1|1");
        Check.same("17, 18: more left nodes", Check.parts(Check.complete(3, 2)), "000|00");
        Check.same("17, 18: more right nodes", Check.parts(Check.complete(2, 3)), "22|222");
        Check.same("17, 18: square", Check.parts(Check.complete(3, 3)), "111|111");
        Check.same("17, 18: mixed", Check.parts(mixed()), "001112|011122");
        // A long way from the free left node, over partners only.
        Check.same("17, 18: far left-heavy", Check.parts(Check.hall(4, 3, "0-0 1-0 1-1 2-1 2-2 3-2")), "0000|000");
        Check.same("17, 18: far right-heavy", Check.parts(Check.hall(3, 4, "0-0 0-1 1-1 1-2 2-2 2-3")), "222|2222");
        // A way goes from a right node to its partner alone, not by another edge.
        Check.same("17, 18: not by any edge back", Check.parts(Check.hall(3, 2, "0-0 1-0 2-0 2-1")), "001|01");
        Phasehall x = mixed();
        x.rebuild();
        Check.same("17, 18: the same for another largest matching", Check.parts(x), "001112|011122");
    }

    private static void partArguments() {
        Phasehall x = Check.hall(2, 3, "0-0");
        Check.refused("17: -1", BOUNDS, () -> x.partOfLeft(-1));
        Check.refused("17: 2", BOUNDS, () -> x.partOfLeft(2));
        Check.refused("17: greatest int", BOUNDS, () -> x.partOfLeft(Integer.MAX_VALUE));
        Check.refused("18: -1", BOUNDS, () -> x.partOfRight(-1));
        Check.refused("18: 3", BOUNDS, () -> x.partOfRight(3));
        Check.refused("18: least int", BOUNDS, () -> x.partOfRight(Integer.MIN_VALUE));
    }

    private static void fineParts() {
        Check.same("19: no nodes", new Phasehall().fineParts(), 0);
        Check.same("19: no square part", Check.complete(3, 2).fineParts(), 0);
        Check.same("19: one", Check.complete(4, 4).fineParts(), 1);
        Check.same("19: apart", Check.hall(3, 3, "0-0 1-1 2-2").fineParts(), 3);
        Check.same("19: a chain", Check.hall(3, 3, "0-0 0-1 1-1 1-2 2-2").fineParts(), 3);
        Check.same("19: a ring", Check.hall(3, 3, "0-0 0-1 1-1 1-2 2-2 2-0").fineParts(), 1);
        Check.same("19: mixed", mixed().fineParts(), 2);
    }

    private static void finePart() {
        Phasehall x = mixed();
        Check.same("20: finePart(2)", x.finePart(2), 2);
        Check.same("20: finePart(3)", x.finePart(3), 2);
        Check.same("20: finePart(4)", x.finePart(4), 4);
        Check.refused("20: left-heavy", ELEMENT, () -> x.finePart(0));
        Check.refused("20: right-heavy", ELEMENT, () -> x.finePart(5));
        Check.refused("20: -1", BOUNDS, () -> x.finePart(-1));
        Check.refused("20: 6", BOUNDS, () -> x.finePart(6));
        Phasehall ring = Check.hall(4, 4, "0-0 1-1 1-2 2-2 2-3 3-3 3-1 3-0");
        Check.same("20: before the ring", ring.finePart(0), 0);
        Check.same("20: the lowest of the ring", ring.finePart(3), 1);
        Check.same("20: its lowest itself", ring.finePart(1), 1);
        ring.connect(0, 2);
        Check.same("20: the ring grows", ring.finePart(2), 0);
    }

    private static void leads() {
        Phasehall x = mixed();
        Check.same("21: to the partner's neighbour", x.leads(4, 2), true);
        Check.same("21: over another one", x.leads(4, 3), true);
        Check.same("21: not back", x.leads(2, 4), false);
        Check.same("21: within a fine part", x.leads(3, 2), true);
        Check.same("21: to itself", x.leads(4, 4), true);
        Check.refused("21: from the left-heavy part", ELEMENT, () -> x.leads(0, 2));
        Check.refused("21: to the left-heavy part", ELEMENT, () -> x.leads(4, 1));
        Check.refused("21: from the right-heavy part", ELEMENT, () -> x.leads(5, 4));
        Check.refused("21: to the right-heavy part", ELEMENT, () -> x.leads(2, 5));
        Check.refused("21: to itself outside the square part", ELEMENT, () -> x.leads(0, 0));
        Check.refused("21: from -1", BOUNDS, () -> x.leads(-1, 2));
        Check.refused("21: from 6", BOUNDS, () -> x.leads(6, 2));
        Check.refused("21: to -1", BOUNDS, () -> x.leads(2, -1));
        Check.refused("21: to 6", BOUNDS, () -> x.leads(2, 6));
        Check.refused("21: the index goes first", BOUNDS, () -> x.leads(0, 6));
        Phasehall chain = Check.hall(4, 4, "0-0 0-1 1-1 1-2 2-2 2-3 3-3");
        Check.same("21: a chain", chain.leads(0, 3), true);
        Check.same("21: a chain back", chain.leads(3, 0), false);
        Phasehall back = Check.hall(4, 4, "0-0 1-1 2-2 3-3 3-2 2-1 1-0");
        Check.same("21: a chain downwards", back.leads(3, 0), true);
        Check.same("21: a chain upwards", back.leads(0, 3), false);
    }

    private static void isInSome() {
        Phasehall x = mixed();
        Check.same("22: left-heavy", x.isInSome(0, 0), true);
        Check.same("22: left-heavy, the other", x.isInSome(1, 0), true);
        Check.same("22: in a fine part", x.isInSome(2, 2), true);
        Check.same("22: in a fine part, the other", x.isInSome(3, 2), true);
        Check.same("22: alone", x.isInSome(4, 3), true);
        Check.same("22: right-heavy", x.isInSome(5, 5), true);
        Check.same("22: square to left-heavy", x.isInSome(4, 0), false);
        Check.same("22: right-heavy to left-heavy", x.isInSome(5, 0), false);
        Check.same("22: right-heavy to square", x.isInSome(5, 3), false);
        Check.same("22: between fine parts", x.isInSome(4, 1), false);
        Check.refused("22: no edge", ELEMENT, () -> x.isInSome(0, 1));
        Check.refused("22: left -1", BOUNDS, () -> x.isInSome(-1, 0));
        Check.refused("22: left 6", BOUNDS, () -> x.isInSome(6, 0));
        Check.refused("22: right -1", BOUNDS, () -> x.isInSome(0, -1));
        Check.refused("22: right 6", BOUNDS, () -> x.isInSome(0, 6));
    }

    private static void isInAll() {
        Phasehall x = mixed();
        Check.same("23: left-heavy", x.isInAll(0, 0), false);
        Check.same("23: in a fine part", x.isInAll(2, x.partnerOfLeft(2)), false);
        Check.same("23: alone", x.isInAll(4, 3), true);
        Check.same("23: right-heavy", x.isInAll(5, x.partnerOfLeft(5)), false);
        Check.same("23: across", x.isInAll(4, 1), false);
        Check.refused("23: no edge", ELEMENT, () -> x.isInAll(0, 1));
        Check.refused("23: left -1", BOUNDS, () -> x.isInAll(-1, 0));
        Check.refused("23: left 6", BOUNDS, () -> x.isInAll(6, 0));
        Check.refused("23: right -1", BOUNDS, () -> x.isInAll(0, -1));
        Check.refused("23: right 6", BOUNDS, () -> x.isInAll(0, 6));
        Phasehall high = Check.hall(12, 12, "11-11");
        Check.same("23: the last nodes", high.isInAll(11, 11), true);
    }

    private static void largestMatchings() {
        Check.same("24: no nodes", new Phasehall().largestMatchings(), 1L);
        Check.same("24: no edges", Check.hall(12, 12, "").largestMatchings(), 1L);
        Check.same("24: one edge", Check.hall(2, 2, "1-0").largestMatchings(), 1L);
        Check.same("24: a star", Check.hall(3, 1, "0-0 1-0 2-0").largestMatchings(), 3L);
        Check.same("24: a turned star", Check.hall(1, 3, "0-0 0-1 0-2").largestMatchings(), 3L);
        Check.same("24: 12!", Check.complete(12, 12).largestMatchings(), 479001600L);
        Check.same("24: 12! / 6!", Check.complete(6, 12).largestMatchings(), 665280L);
        Check.same("24: 12! / 5!", Check.complete(12, 7).largestMatchings(), 3991680L);
        Check.same("24: mixed", mixed().largestMatchings(), 8L);
        Check.same("24: a ring", Check.hall(3, 3, "0-0 0-1 1-1 1-2 2-2 2-0").largestMatchings(), 2L);
    }
}
