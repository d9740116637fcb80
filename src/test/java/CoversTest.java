/** Promises 25 to 28: covers. */
public final class CoversTest {
    private static final Class<IndexOutOfBoundsException> BOUNDS = IndexOutOfBoundsException.class;

    public static void main(String[] args) {
        leftCover();
        coverArguments();
        leastCovers();
        greatestExcess();
        Check.end("CoversTest");
    }

    private static String cover(Phasehall hall) {
        StringBuilder text = new StringBuilder();
        for (int left = 0; left < hall.lefts(); left++) {
            text.append(hall.coversLeft(left) ? 'x' : '.');
        }
        text.append('|');
        for (int right = 0; right < hall.rights(); right++) {
            text.append(hall.coversRight(right) ? 'x' : '.');
        }
        return text.toString();
    }

    private static void leftCover() {
        Check.same("25, 26: no edges", cover(Check.hall(2, 2, "")), "..|..");
        Check.same("25, 26: one edge", cover(Check.hall(1, 1, "0-0")), "x|.");
        Check.same("25, 26: a star", cover(Check.hall(3, 2, "0-0 1-0 2-0")), "...|x.");
        Check.same("25, 26: a turned star", cover(Check.hall(2, 3, "0-0 0-1 0-2")), "x.|...");
        Check.same("25, 26: all three parts",
            cover(Check.hall(4, 4, "0-0 1-0 2-1 3-2 3-3 2-0 3-1")), "..xx|x...");
        Check.same("25, 26: far from the free node",
            cover(Check.hall(4, 3, "0-0 1-0 1-1 2-1 2-2 3-2")), "....|xxx");
    }

    private static void coverArguments() {
        Phasehall x = Check.hall(2, 3, "0-0");
        Check.refused("25: -1", BOUNDS, () -> x.coversLeft(-1));
        Check.refused("25: 2", BOUNDS, () -> x.coversLeft(2));
        Check.refused("25: least int", BOUNDS, () -> x.coversLeft(Integer.MIN_VALUE));
        Check.refused("26: -1", BOUNDS, () -> x.coversRight(-1));
        Check.refused("26: 3", BOUNDS, () -> x.coversRight(3));
        Check.refused("26: greatest int", BOUNDS, () -> x.coversRight(Integer.MAX_VALUE));
    }

    private static void leastCovers() {
        Check.same("27: no nodes", new Phasehall().leastCovers(), 1);
        Check.same("27: no edges", Check.hall(12, 12, "").leastCovers(), 1);
        Check.same("27: one edge", Check.hall(1, 1, "0-0").leastCovers(), 2);
        Check.same("27: a star", Check.hall(3, 1, "0-0 1-0 2-0").leastCovers(), 1);
        Check.same("27: complete", Check.complete(12, 12).leastCovers(), 2);
        Check.same("27: complete, more right nodes", Check.complete(11, 12).leastCovers(), 1);
        Check.same("27: a chain", Check.hall(3, 3, "0-0 0-1 1-1 1-2 2-2").leastCovers(), 4);
        StringBuilder apart = new StringBuilder("0-0");
        for (int node = 1; node < 12; node++) {
            apart.append(' ').append(node).append('-').append(node);
        }
        Check.same("27: twelve edges apart", Check.hall(12, 12, apart.toString()).leastCovers(), 4096);
    }

    private static void greatestExcess() {
        Check.same("28: no nodes", new Phasehall().greatestExcess(), 0);
        Check.same("28: the empty set", Check.hall(0, 5, "").greatestExcess(), 0);
        Check.same("28: the empty set is the best", Check.complete(2, 3).greatestExcess(), 0);
        Check.same("28: left nodes without edges", Check.hall(4, 3, "").greatestExcess(), 4);
        Check.same("28: a star", Check.hall(4, 3, "0-0 1-0 2-0 3-0").greatestExcess(), 3);
        Check.same("28: a part of the nodes", Check.hall(4, 4, "0-0 1-0 2-0 3-1 3-2 3-3").greatestExcess(), 2);
    }
}
