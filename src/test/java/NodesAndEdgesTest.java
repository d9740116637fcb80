import java.util.NoSuchElementException;

/** Promises 1 to 9: a new object, nodes and edges. */
public final class NodesAndEdgesTest {
    private static final Class<IndexOutOfBoundsException> BOUNDS = IndexOutOfBoundsException.class;
    private static final Class<IllegalStateException> STATE = IllegalStateException.class;
    private static final Class<NoSuchElementException> ELEMENT = NoSuchElementException.class;

    public static void main(String[] args) {
        newObject();
        addLeft();
        addRight();
        counts();
        connect();
        connectRefuses();
        disconnect();
        disconnectRefuses();
        hasEdge();
        Check.end("NodesAndEdgesTest");
    }

    private static void newObject() {
        Phasehall x = new Phasehall();
        Check.same("1: lefts", x.lefts(), 0);
        Check.same("1: rights", x.rights(), 0);
        Check.same("1: edges", x.edges(), 0);
        Check.same("1: size", x.size(), 0);
        Check.same("1: phases", x.phases(), 0);
        Check.refused("1: partOfLeft(0)", BOUNDS, () -> x.partOfLeft(0));
        Check.refused("1: partOfRight(0)", BOUNDS, () -> x.partOfRight(0));
        Phasehall other = new Phasehall();
        x.addLeft();
        x.addRight();
        x.connect(0, 0);
        Check.same("1: lefts of another object", other.lefts(), 0);
        Check.same("1: edges of another object", other.edges(), 0);
        Check.same("1: size of another object", other.size(), 0);
    }

    private static void addLeft() {
        Phasehall x = Check.hall(0, 1, "");
        for (int left = 0; left < 12; left++) {
            Check.same("2: addLeft", x.addLeft(), left);
            Check.same("2: a new left node is free", x.partOfLeft(left), 0);
            Check.same("2: a new left node has no edge", x.hasEdge(left, 0), false);
        }
        x.connect(11, 0);
        Check.refused("2: a 13th left node", STATE, () -> x.addLeft());
        Check.same("2: lefts after the refusal", x.lefts(), 12);
        Check.same("2: partner after the refusal", x.partnerOfRight(0), 11);
        Check.same("2: right nodes are counted apart", x.addRight(), 1);
    }

    private static void addRight() {
        Phasehall x = Check.hall(1, 0, "");
        for (int right = 0; right < 12; right++) {
            Check.same("3: addRight", x.addRight(), right);
            Check.same("3: a new right node is free", x.partOfRight(right), 2);
            Check.same("3: a new right node has no edge", x.hasEdge(0, right), false);
        }
        x.connect(0, 11);
        Check.refused("3: a 13th right node", STATE, () -> x.addRight());
        Check.same("3: rights after the refusal", x.rights(), 12);
        Check.same("3: partner after the refusal", x.partnerOfLeft(0), 11);
        Check.same("3: left nodes are counted apart", x.addLeft(), 1);
    }

    private static void counts() {
        Phasehall x = Check.hall(3, 2, "0-0 0-1 2-1");
        Check.same("4: lefts", x.lefts(), 3);
        Check.same("5: rights", x.rights(), 2);
        Check.same("6: edges", x.edges(), 3);
        x.addLeft();
        Check.same("4: lefts after addLeft", x.lefts(), 4);
        Check.same("5: rights after addLeft", x.rights(), 2);
        x.addRight();
        Check.same("4: lefts after addRight", x.lefts(), 4);
        Check.same("5: rights after addRight", x.rights(), 3);
        Check.same("6: edges after new nodes", x.edges(), 3);
        x.disconnect(0, 1);
        Check.same("6: edges after disconnect", x.edges(), 2);
        Check.same("6: edges of all", Check.complete(12, 12).edges(), 144);
    }

    private static void connect() {
        Phasehall x = Check.hall(3, 3, "");
        Check.same("7: first edge", x.connect(0, 0), true);
        Check.same("7: no path to a free node", x.connect(1, 0), false);
        Check.same("7: unmatched at first", Check.partners(x), "0 - -");
        Check.same("7: a path over two edges", x.connect(0, 1), true);
        Check.same("7: the path is changed", Check.partners(x), "1 0 -");
        Check.same("7: an edge to a free right node from a matched left", x.connect(1, 2), false);
        Check.same("7: the matching stays", Check.partners(x), "1 0 -");
        Check.same("7: size", x.size(), 2);
        Check.same("7: the far end of a path", x.connect(2, 1), true);
        // 2 looks at 1, so 0 waits; 0 looks at 0, so 1 waits; 1 finds 2.
        Check.same("7: the whole path is changed", Check.partners(x), "0 2 1");
        searchOrder();
    }

    private static void searchOrder() {
        // The lowest free left node stands at the head, though the new edge is at another one.
        Phasehall x = Check.hall(3, 2, "0-0 1-0 2-0");
        Check.same("7: queue", x.connect(0, 1), true);
        Check.same("7: the lowest free left node goes first", Check.partners(x), "1 0 -");
        // Partners wait in the order in which their right nodes are looked at: 1 comes before 0.
        Phasehall y = Check.hall(3, 5, "1-0 0-1 2-2 1-3 0-4 2-1 2-0");
        Check.same("7: before", Check.partners(y), "1 0 2");
        y.disconnect(2, 2);
        Check.same("7: the first in the queue", Check.partners(y), "1 3 0");
        // Right nodes are looked at in ascending order, not in the order of connecting.
        Phasehall z = Check.hall(2, 3, "0-0 1-0");
        z.disconnect(0, 0);
        Check.same("7: one left", Check.partners(z), "- 0");
        z.connect(0, 0);
        z.connect(1, 2);
        Check.same("7: by the new edge", Check.partners(z), "0 2");
        z.connect(0, 1);
        z.disconnect(1, 2);
        Check.same("7: ascending right nodes", Check.partners(z), "1 0");
        // The short way over 1 is found before the long one over 0.
        Phasehall b = Check.hall(4, 6, "1-0 0-1 3-3 2-2 1-3 3-5 0-4 2-0 2-1");
        b.disconnect(2, 2);
        Check.same("7: breadth first", Check.partners(b), "4 0 1 3");
    }

    private static void connectRefuses() {
        Phasehall x = Check.hall(2, 3, "0-0 1-2");
        Check.refused("7: left -1", BOUNDS, () -> x.connect(-1, 0));
        Check.refused("7: left 2", BOUNDS, () -> x.connect(2, 0));
        Check.refused("7: right -1", BOUNDS, () -> x.connect(0, -1));
        Check.refused("7: right 3", BOUNDS, () -> x.connect(0, 3));
        Check.refused("7: least int", BOUNDS, () -> x.connect(Integer.MIN_VALUE, Integer.MIN_VALUE));
        Check.refused("7: greatest int", BOUNDS, () -> x.connect(Integer.MAX_VALUE, Integer.MAX_VALUE));
        Check.refused("7: a bit's wrap-around", BOUNDS, () -> x.connect(0, 32));
        Check.refused("7: twice", STATE, () -> x.connect(0, 0));
        Check.refused("7: twice, the other edge", STATE, () -> x.connect(1, 2));
        Check.same("7: edges after refusals", x.edges(), 2);
        Check.same("7: partners after refusals", Check.partners(x), "0 2");
    }

    private static void disconnect() {
        Phasehall x = Check.hall(2, 2, "0-0 0-1 1-0");
        Check.same("8: partners", Check.partners(x), "1 0");
        Check.same("8: an unmatched edge", x.disconnect(0, 0), false);
        Check.same("8: the matching stays", Check.partners(x), "1 0");
        Check.same("8: edge is gone", x.hasEdge(0, 0), false);
        Check.same("8: a matched edge without another", x.disconnect(0, 1), true);
        Check.same("8: its node is free", Check.partners(x), "- 0");
        Check.same("8: size", x.size(), 1);
        Check.same("8: the last edge", x.disconnect(1, 0), true);
        Check.same("8: no edges", x.edges(), 0);
        Check.same("8: the empty matching", x.size(), 0);
        Phasehall y = Check.hall(2, 2, "0-0 1-0 1-1");
        Check.same("8: partners before", Check.partners(y), "0 1");
        Check.same("8: a search that ends at once", y.disconnect(1, 1), true);
        Phasehall z = Check.hall(2, 3, "0-0 0-1 1-1 1-2");
        Check.same("8: partners of z", Check.partners(z), "0 1");
        Check.same("8: one path more", z.disconnect(0, 0), false);
        Check.same("8: the path is changed", Check.partners(z), "1 2");
        Phasehall w = Check.hall(3, 2, "0-0 1-0 1-1 2-1");
        Check.same("8: partners of w", Check.partners(w), "0 1 -");
        Check.same("8: another left node takes the free right one", w.disconnect(0, 0), false);
        // 0 has no edge any more; 2 looks at 1, and 1 finds 0.
        Check.same("8: by the search", Check.partners(w), "- 0 1");
    }

    private static void disconnectRefuses() {
        Phasehall x = Check.hall(2, 3, "0-0 1-2");
        Check.refused("8: left -1", BOUNDS, () -> x.disconnect(-1, 0));
        Check.refused("8: left 2", BOUNDS, () -> x.disconnect(2, 0));
        Check.refused("8: right -1", BOUNDS, () -> x.disconnect(0, -1));
        Check.refused("8: right 3", BOUNDS, () -> x.disconnect(0, 3));
        Check.refused("8: no edge", ELEMENT, () -> x.disconnect(0, 1));
        Check.refused("8: a bit's wrap-around", BOUNDS, () -> x.disconnect(0, 32));
        Check.same("8: edges after refusals", x.edges(), 2);
        Check.same("8: partners after refusals", Check.partners(x), "0 2");
        x.disconnect(0, 0);
        Check.refused("8: twice", ELEMENT, () -> x.disconnect(0, 0));
    }

    private static void hasEdge() {
        Phasehall x = Check.hall(2, 3, "0-0 1-2 0-1");
        Check.same("9: matched", x.hasEdge(0, 0), true);
        Check.same("9: unmatched", x.hasEdge(0, 1), true);
        Check.same("9: none", x.hasEdge(1, 0), false);
        Check.same("9: none at the last", x.hasEdge(0, 2), false);
        x.disconnect(1, 2);
        Check.same("9: removed", x.hasEdge(1, 2), false);
        Check.refused("9: left -1", BOUNDS, () -> x.hasEdge(-1, 0));
        Check.refused("9: left 2", BOUNDS, () -> x.hasEdge(2, 2));
        Check.refused("9: right -1", BOUNDS, () -> x.hasEdge(0, -1));
        Check.refused("9: right 3", BOUNDS, () -> x.hasEdge(0, 3));
    }
}
