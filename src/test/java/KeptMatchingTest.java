import java.util.NoSuchElementException;

/** Promises 10 to 12: the kept matching. */
public final class KeptMatchingTest {
    private static final Class<IndexOutOfBoundsException> BOUNDS = IndexOutOfBoundsException.class;
    private static final Class<NoSuchElementException> ELEMENT = NoSuchElementException.class;

    public static void main(String[] args) {
        size();
        partnerOfLeft();
        partnerOfRight();
        Check.end("KeptMatchingTest");
    }

    private static void size() {
        Check.same("10: no edges", Check.hall(3, 3, "").size(), 0);
        Check.same("10: a star", Check.hall(3, 3, "0-1 1-1 2-1").size(), 1);
        Check.same("10: a chain", Check.hall(3, 3, "0-0 1-0 1-1 2-1 2-2").size(), 3);
        Check.same("10: complete", Check.complete(12, 12).size(), 12);
        Check.same("10: more right nodes", Check.complete(5, 12).size(), 5);
        Phasehall x = Check.hall(2, 2, "0-0 1-0");
        Check.same("10: before", x.size(), 1);
        x.connect(1, 1);
        Check.same("10: one more", x.size(), 2);
        x.disconnect(0, 0);
        Check.same("10: one less", x.size(), 1);
        x.disconnect(1, 0);
        Check.same("10: unmatched edge removed", x.size(), 1);
        x.rebuild();
        Check.same("10: after rebuild", x.size(), 1);
    }

    private static void partnerOfLeft() {
        Phasehall x = Check.hall(3, 2, "0-1 2-0");
        Check.same("11: partner of 0", x.partnerOfLeft(0), 1);
        Check.same("11: partner of 2", x.partnerOfLeft(2), 0);
        Check.refused("11: free", ELEMENT, () -> x.partnerOfLeft(1));
        Check.refused("11: -1", BOUNDS, () -> x.partnerOfLeft(-1));
        Check.refused("11: 3", BOUNDS, () -> x.partnerOfLeft(3));
        Check.refused("11: 12", BOUNDS, () -> x.partnerOfLeft(12));
        x.disconnect(0, 1);
        Check.refused("11: free again", ELEMENT, () -> x.partnerOfLeft(0));
        Check.same("11: last of 12", Check.hall(12, 12, "11-11").partnerOfLeft(11), 11);
    }

    private static void partnerOfRight() {
        Phasehall x = Check.hall(2, 3, "1-0 0-2");
        Check.same("12: partner of 0", x.partnerOfRight(0), 1);
        Check.same("12: partner of 2", x.partnerOfRight(2), 0);
        Check.refused("12: free", ELEMENT, () -> x.partnerOfRight(1));
        Check.refused("12: -1", BOUNDS, () -> x.partnerOfRight(-1));
        Check.refused("12: 3", BOUNDS, () -> x.partnerOfRight(3));
        Check.refused("12: 12", BOUNDS, () -> x.partnerOfRight(12));
        x.disconnect(1, 0);
        Check.refused("12: free again", ELEMENT, () -> x.partnerOfRight(0));
        Check.same("12: last of 12", Check.hall(12, 12, "11-11").partnerOfRight(11), 11);
    }
}
