import java.lang.reflect.InvocationTargetException;
import java.lang.reflect.Method;
import java.util.ArrayList;
import java.util.Arrays;
import java.util.List;

/** Promises 2 to 17: each call with all numbers at its edges, together, compared with PlainInn, and the digest then. */
final class EdgeSweepTest {
    private static final int MIN = Integer.MIN_VALUE;
    private static final int MAX = Integer.MAX_VALUE;
    private static final int[] ROOMS = {MIN, -1, 0, 1, 2, 3, 9, 10, MAX};
    private static final int[] GHOSTS = {MIN, -1, 0, 1, 2, 4, 5, MAX};
    private static final int[] GUESTS = {MIN, -1, 0, 2, 3, 11, 12, MAX};
    private static final int[] BEDS = {MIN, 0, 1, 6, 7, MAX};
    private static final int[] WHATS = {MIN, -1, 0, 1, 2, 3, 4, 5, 6, 7, 8, 9, MAX};
    private static final int[] HOURS = {MIN, -2, -1, 0, 5, 11, 12, MAX};

    private static final List<Call> SOME = calls("furnish 2 5 20", "furnish 4 9 35", "furnish 1 0 0", "door 0 1",
            "haunt 0 5 2 8", "haunt 1 9 0 12", "come 100 2 9", "come 60 1 -9", "come 1000 1 90", "bid 0 0 50",
            "bid 1 0 40", "night", "bid 0 0 30", "bid 2 1 60");
    private static final List<Call> FULL = full();

    public static void main(String[] args) {
        sweep("furnish", BEDS, new int[] {MIN, -1, 0, 9, 10, MAX}, new int[] {MIN, -1, 0, 100, 101, MAX});
        sweep("door", ROOMS, ROOMS);
        sweep("haunt", new int[] {-1, 0, 2, 3, 9, 10}, new int[] {0, 1, 9, 10}, new int[] {-1, 0, 5, 11, 12, MAX},
                new int[] {MIN, 0, 1, 5, 6, 12, 13});
        sweep("at", GHOSTS, HOURS);
        sweep("haunting", ROOMS, HOURS);
        sweep("room", ROOMS, WHATS);
        sweep("come", new int[] {MIN, -1, 0, 1000, 1001, MAX}, BEDS, new int[] {MIN, -10, -9, -1, 0, 90, 91, MAX});
        sweep("bid", GUESTS, ROOMS, new int[] {MIN, 0, 1, 20, 35, 60, 100, 200, 201, MAX});
        sweep("leave", GUESTS);
        sweep("guest", GUESTS, WHATS);
        sweep("wins", ROOMS, WHATS);
        sweep("night");
        sweep("count", WHATS);
        sweep("best", GUESTS);
        sweep("most");
        sweep("scares", GHOSTS);
        sweep("mean");
        Check.end();
    }

    private static void sweep(String name, int[]... edges) {
        sweep(name, new int[0], edges);
    }

    private static void sweep(String name, int[] chosen, int[][] edges) {
        if (chosen.length == edges.length) {
            Call call = new Call(name, chosen);
            compare("a new inn", List.of(), call);
            compare("some of each", SOME, call);
            compare("every place taken", FULL, call);
            return;
        }
        for (int edge : edges[chosen.length]) {
            int[] more = Arrays.copyOf(chosen, chosen.length + 1);
            more[chosen.length] = edge;
            sweep(name, more, edges);
        }
    }

    private static void compare(String when, List<Call> ahead, Call call) {
        GhostInn inn = new GhostInn();
        PlainInn plain = new PlainInn();
        for (Call one : ahead) {
            one.answerOf(inn);
            one.answerOf(plain);
        }
        String what = when + ", " + call;
        Check.equal(what, call.answerOf(plain), call.answerOf(inn));
        Check.equal(what + ", digest then", plain.digest(), inn.digest());
    }

    private static List<Call> full() {
        List<String> calls = new ArrayList<>();
        for (int room = 0; room < 10; room++) {
            calls.add("furnish " + (1 + room % 6) + " " + room + " " + 7 * room);
        }
        for (int door = 0; door < 20; door++) {
            calls.add("door " + door % 10 + " " + (door + 1 + door / 10) % 10);
        }
        for (int ghost = 0; ghost < 5; ghost++) {
            calls.add("haunt " + 2 * ghost + " " + (1 + 2 * ghost) + " " + ghost + " " + (12 - ghost));
        }
        for (int guest = 0; guest < 12; guest++) {
            calls.add("come " + 90 * guest + " " + (1 + guest % 3) + " " + (9 * guest - 9));
            calls.add("bid " + guest + " " + guest % 10 + " " + (20 + 15 * guest));
        }
        calls.add("night");
        for (int guest = 0; guest < 12; guest++) {
            calls.add("bid " + guest + " " + (guest + 3) % 10 + " " + (20 + 15 * guest));
        }
        return calls(calls.toArray(new String[0]));
    }

    private static List<Call> calls(String... texts) {
        List<Call> calls = new ArrayList<>();
        for (String text : texts) {
            String[] words = text.split(" ");
            calls.add(new Call(words[0], Arrays.stream(words, 1, words.length).mapToInt(Integer::parseInt).toArray()));
        }
        return calls;
    }

    /** A call of either inn. */
    private static final class Call {
        private final String text;
        private final Method ofInn;
        private final Method ofPlain;
        private final Object[] numbers;

        Call(String name, int[] numbers) {
            Class<?>[] types = new Class<?>[numbers.length];
            Arrays.fill(types, int.class);
            this.text = name + Arrays.toString(numbers);
            this.numbers = Arrays.stream(numbers).boxed().toArray();
            try {
                this.ofInn = GhostInn.class.getDeclaredMethod(name, types);
                this.ofPlain = PlainInn.class.getDeclaredMethod(name, types);
            } catch (NoSuchMethodException e) {
                throw new IllegalArgumentException(e);
            }
        }

        /** An exception that the class did not make itself is told apart: the machine may throw none. */
        String answerOf(Object inn) {
            try {
                return (inn instanceof GhostInn ? ofInn : ofPlain).invoke(inn, numbers).toString();
            } catch (InvocationTargetException e) {
                String thrower = e.getCause().getStackTrace()[0].getClassName();
                boolean own = thrower.equals(inn.getClass().getName());
                return e.getCause().getClass().getSimpleName() + (own ? "" : " of the machine");
            } catch (IllegalAccessException e) {
                throw new IllegalStateException(e);
            }
        }

        @Override
        public String toString() {
            return text;
        }
    }
}
