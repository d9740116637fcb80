import java.util.ArrayList;
import java.util.List;
import java.util.function.Supplier;

/** Checks that a call is refused in the due way, and that the object is afterwards as if it had not been made. */
final class Refusal {
    private static final Class<IndexOutOfBoundsException> BOUNDS = IndexOutOfBoundsException.class;

    /** Numbers that no node and no phase has; many are a node's number again by a wrap-around of bits. */
    private static final int[] NEVER_INSIDE = {Integer.MIN_VALUE, -144, -64, -32, -31, -13, -12, -2, -1,
        12, 13, 31, 32, 33, 64, 144, Integer.MAX_VALUE};

    private Refusal() {
    }

    /** How many numbers a call takes of an object, from 0 on. */
    interface Count {
        int of(Phasehall hall);
    }

    interface Call {
        Object ask(Phasehall hall);
    }

    interface OneNumber {
        Object ask(Phasehall hall, int number);
    }

    interface TwoNumbers {
        Object ask(Phasehall hall, int first, int second);
    }

    /** A call is refused, and refused again, and nothing has changed. */
    static void unchanged(String what, Class<? extends RuntimeException> due, Bound bound, Call call) {
        Phasehall hall = bound.make();
        String place = what + " (" + bound + ")";
        Check.refused(place, due, () -> call.ask(hall));
        Check.refused(place + ", again", due, () -> call.ask(hall));
        sameAsUntouched(place, hall, bound);
    }

    /** Every number outside is out of bounds on every Bound. */
    static void outside(String what, Count count, OneNumber call) {
        for (Bound bound : Bound.values()) {
            Phasehall hall = bound.make();
            String place = what + " (" + bound + ")";
            for (int number : numbersOutside(count.of(hall))) {
                Check.refused(place + " of " + number, BOUNDS, () -> call.ask(hall, number));
            }
            sameAsUntouched(place, hall, bound);
        }
    }

    /** Every number outside is out of bounds on every Bound: the first one, the second one, and both. */
    static void outside(String what, Count firsts, Count seconds, TwoNumbers call) {
        for (Bound bound : Bound.values()) {
            Phasehall hall = bound.make();
            String place = what + " (" + bound + ")";
            int firstCount = firsts.of(hall);
            int secondCount = seconds.of(hall);
            for (int first : numbersOutside(firstCount)) {
                int second = somewhereInside(secondCount, first);
                Check.refused(place + " of " + first + ", " + second, BOUNDS, () -> call.ask(hall, first, second));
                Check.refused(place + " of " + first + " twice", BOUNDS, () -> call.ask(hall, first, first));
            }
            for (int second : numbersOutside(secondCount)) {
                int first = somewhereInside(firstCount, second);
                Check.refused(place + " of " + first + ", " + second, BOUNDS, () -> call.ask(hall, first, second));
            }
            sameAsUntouched(place, hall, bound);
        }
    }

    private static List<Integer> numbersOutside(int count) {
        List<Integer> numbers = new ArrayList<>();
        for (int number : NEVER_INSIDE) {
            numbers.add(number);
        }
        if (count < 12) {
            numbers.add(count);
            numbers.add(Math.min(count + 1, 11));
        }
        return numbers;
    }

    /** The first number or the last one, by turns; 0 if there is none, which is outside then. */
    private static int somewhereInside(int count, int turn) {
        return turn % 2 == 0 || count == 0 ? 0 : count - 1;
    }

    private static void sameAsUntouched(String place, Phasehall hall, Bound bound) {
        Check.same(place + ", and nothing has changed", answers(hall), answers(bound.make()));
    }

    /** What an object answers to all questions without a number and to those about every node, pair and phase. */
    static String answers(Phasehall hall) {
        int lefts = hall.lefts();
        int rights = hall.rights();
        StringBuilder text = new StringBuilder();
        text.append(lefts).append(' ').append(rights).append(' ').append(hall.edges());
        text.append(" size ").append(hall.size()).append(" phases ").append(Check.phases(hall));
        text.append(" fine ").append(hall.fineParts()).append(" matchings ").append(hall.largestMatchings());
        text.append(" covers ").append(hall.leastCovers()).append(" excess ").append(hall.greatestExcess());
        for (int left = 0; left < lefts; left++) {
            int node = left;
            text.append("\nleft ").append(left).append(' ').append(one(() -> hall.partnerOfLeft(node)));
            text.append(' ').append(hall.partOfLeft(left)).append(' ').append(one(() -> hall.finePart(node)));
            text.append(' ').append(hall.coversLeft(left));
            for (int right = 0; right < rights; right++) {
                text.append(hall.hasEdge(left, right) ? " x" : " .");
            }
        }
        for (int right = 0; right < rights; right++) {
            int node = right;
            text.append("\nright ").append(right).append(' ').append(one(() -> hall.partnerOfRight(node)));
            text.append(' ').append(hall.partOfRight(right)).append(' ').append(hall.coversRight(right));
        }
        return text.toString();
    }

    private static String one(Supplier<Object> call) {
        try {
            return String.valueOf(call.get());
        } catch (RuntimeException e) {
            return e.getClass().getName();
        }
    }
}
