/** Every graph with at most three nodes on each side, answered by the class and by the Model. */
public final class SmallGraphsTest {
    private static final int MOST = 3;
    private static final String[] COUNTS = {"lefts", "rights", "edges", "size", "phases", "fineParts",
        "largestMatchings", "leastCovers", "greatestExcess"};
    private static final String[] OF_PHASE = {"depthOf", "pathsOf"};
    private static final String[] OF_LEFT = {"partnerOfLeft", "partOfLeft", "finePart", "coversLeft"};
    private static final String[] OF_RIGHT = {"partnerOfRight", "partOfRight", "coversRight"};
    private static final String[] OF_BOTH = {"hasEdge", "isInSome", "isInAll"};

    private final int lefts;
    private final int rights;
    private final String place;
    private final Phasehall hall = new Phasehall();
    private final Model model = new Model();

    private SmallGraphsTest(int lefts, int rights, int graph, String order) {
        this.lefts = lefts;
        this.rights = rights;
        this.place = lefts + " and " + rights + " nodes, edges " + Integer.toBinaryString(graph) + ", " + order + ": ";
        repeat("addLeft", lefts);
        repeat("addRight", rights);
    }

    public static void main(String[] args) {
        for (int lefts = 0; lefts <= MOST; lefts++) {
            for (int rights = 0; rights <= MOST; rights++) {
                for (int graph = 0; graph < 1 << lefts * rights; graph++) {
                    new SmallGraphsTest(lefts, rights, graph, "rising").runRising(graph);
                    new SmallGraphsTest(lefts, rights, graph, "falling").runFalling(graph);
                }
            }
        }
        Check.end("SmallGraphsTest");
    }

    private void runRising(int graph) {
        for (int edge = 0; edge < lefts * rights; edge++) {
            changeEdge("connect", graph, edge);
        }
        askAll();
        for (int edge = 0; edge < lefts * rights; edge += 2) {
            changeEdge("disconnect", graph, edge);
        }
        askAll();
        ask("rebuild");
        askAll();
    }

    private void runFalling(int graph) {
        for (int edge = lefts * rights - 1; edge >= 0; edge--) {
            changeEdge("connect", graph, edge);
        }
        askAll();
        ask("rebuild");
        askAll();
        for (int edge = lefts * rights - 1; edge >= 0; edge -= 2) {
            changeEdge("disconnect", graph, edge);
        }
        askAll();
    }

    private void changeEdge(String change, int graph, int edge) {
        if ((graph >> edge & 1) != 0) {
            ask(change, edge / rights, edge % rights);
        }
    }

    private void repeat(String name, int times) {
        for (int time = 0; time < times; time++) {
            ask(name);
        }
    }

    private void askAll() {
        for (String name : COUNTS) {
            ask(name);
        }
        // There is a path in each phase, so that the last number asked for is never that of a phase.
        askEach(OF_PHASE, MOST + 1);
        askEach(OF_LEFT, lefts);
        askEach(OF_RIGHT, rights);
        askEachPair(OF_BOTH, rights);
        askEachPair(new String[] {"leads"}, lefts);
    }

    private void askEach(String[] names, int count) {
        for (String name : names) {
            for (int number = 0; number < count; number++) {
                ask(name, number);
            }
        }
    }

    private void askEachPair(String[] names, int seconds) {
        for (String name : names) {
            for (int left = 0; left < lefts; left++) {
                for (int second = 0; second < seconds; second++) {
                    ask(name, left, second);
                }
            }
        }
    }

    private void ask(String name, Object... arguments) {
        Check.same(place + name + java.util.Arrays.toString(arguments),
            Asked.answer(hall, name, arguments), Asked.answer(model, name, arguments));
    }
}
