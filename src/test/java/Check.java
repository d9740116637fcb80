import java.util.function.Supplier;

/** What the tests share: small graphs, and checks that count what is wrong. */
final class Check {
    private static int wrong = 0;

    private Check() {
    }

    /** Makes an object with so many nodes and with edges such as "0-1 2-0", connected in this order. */
    static Phasehall hall(int lefts, int rights, String edges) {
        Phasehall hall = new Phasehall();
        for (int left = 0; left < lefts; left++) {
            hall.addLeft();
        }
        for (int right = 0; right < rights; right++) {
            hall.addRight();
        }
        if (!edges.isEmpty()) {
            for (String edge : edges.split(" ")) {
                String[] ends = edge.split("-");
                hall.connect(Integer.parseInt(ends[0]), Integer.parseInt(ends[1]));
            }
        }
        return hall;
    }

    static Phasehall complete(int lefts, int rights) {
        Phasehall hall = hall(lefts, rights, "");
        for (int left = 0; left < lefts; left++) {
            for (int right = 0; right < rights; right++) {
                hall.connect(left, right);
            }
        }
        return hall;
    }

    static void same(String what, Object got, Object due) {
        if (!got.equals(due)) {
            wrong++;
            System.out.println(what + " answered " + got + ", due is " + due);
        }
    }

    /** The exception must be of just this class: a subclass is what the machine throws by itself. */
    static void refused(String what, Class<? extends RuntimeException> due, Supplier<Object> call) {
        String got;
        try {
            got = String.valueOf(call.get());
        } catch (RuntimeException e) {
            got = e.getClass().getName();
        }
        same(what, got, due.getName());
    }

    /** The partners of all left nodes in the kept matching, '-' for a free one. */
    static String partners(Phasehall hall) {
        StringBuilder text = new StringBuilder();
        for (int left = 0; left < hall.lefts(); left++) {
            text.append(left == 0 ? "" : " ");
            try {
                int right = hall.partnerOfLeft(left);
                text.append(right);
                same("partnerOfRight(" + right + ")", hall.partnerOfRight(right), left);
            } catch (java.util.NoSuchElementException e) {
                text.append('-');
            }
        }
        return text.toString();
    }

    /** The parts of all nodes, left ones first. */
    static String parts(Phasehall hall) {
        StringBuilder text = new StringBuilder();
        for (int left = 0; left < hall.lefts(); left++) {
            text.append(hall.partOfLeft(left));
        }
        text.append('|');
        for (int right = 0; right < hall.rights(); right++) {
            text.append(hall.partOfRight(right));
        }
        return text.toString();
    }

    /** Each phase as depth:paths. */
    static String phases(Phasehall hall) {
        StringBuilder text = new StringBuilder();
        int count = hall.phases();
        for (int phase = 0; phase < count; phase++) {
            text.append(phase == 0 ? "" : " ");
            text.append(hall.depthOf(phase)).append(':').append(hall.pathsOf(phase));
        }
        return text.toString();
    }

    static void end(String test) {
        System.out.println(test + ": " + (wrong == 0 ? "all as due" : wrong + " not as due"));
        if (wrong != 0) {
            System.exit(1);
        }
    }
}
