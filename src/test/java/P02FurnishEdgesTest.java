import java.util.List;
import java.util.function.Supplier;

/** Promise 2: the edges that its sentences name. */
final class P02FurnishEdgesTest {
    private static final String HEAD = "Promise 2: furnish";
    private static final String NUMBER = "Returns its number.";
    private static final String ARGUMENT = "Throws `IllegalArgumentException` if beds is not 1 to 6,"
            + " comfort is not 0 to 9, or least is not 0 to 100";
    private static final String STATE = "Throws `IllegalStateException` if there are 10";
    private static final String ROOMS = "There are at most 10, numbered from 0 in the order of their furnishing;"
            + " each has beds, 1 to 6, comfort, 0 to 9, and a least price, 0 to 100.";

    public static void main(String[] args) {
        Sentence.testAll(all());
    }

    static List<Sentence> all() {
        return List.of(
                new Sentence(HEAD, NUMBER, "0 for the first one, 9 for the last one", P02FurnishEdgesTest::numbers)
                        .brokenIn("furnish", "return rooms.size() - 1", "return rooms.size()")
                        .brokenIn("furnish", "return rooms.size() - 1", "return Math.min(rooms.size() - 1, 8)"),
                new Sentence(HEAD, ARGUMENT, "beds 1 and 6, but not 0 and 7", P02FurnishEdgesTest::beds)
                        .brokenBounds("furnish", "beds", 1, 6),
                new Sentence(HEAD, ARGUMENT, "comfort 0 and 9, but not -1 and 10", P02FurnishEdgesTest::comfort)
                        .brokenBounds("furnish", "comfort", 0, 9),
                new Sentence(HEAD, ARGUMENT, "least price 0 and 100, but not -1 and 101", P02FurnishEdgesTest::least)
                        .brokenBounds("furnish", "least", 0, 100),
                new Sentence(HEAD, STATE, "the tenth room is furnished, the eleventh is not",
                        P02FurnishEdgesTest::places)
                        .brokenIn("furnish", "rooms.size() >= MOST_ROOMS", "rooms.size() > MOST_ROOMS")
                        .brokenIn("furnish", "rooms.size() >= MOST_ROOMS", "rooms.size() >= MOST_ROOMS - 1"),
                new Sentence(Terms.HEAD, ROOMS, "from 0 to 9, each with what it was furnished with",
                        P02FurnishEdgesTest::inTheirOrder)
                        .brokenIn("furnish", "rooms.add(new Room", "rooms.add(0, new Room")
                        .brokenIn("furnish", "new Room(beds, comfort, least)", "new Room(beds, comfort, 0)")
                        .brokenIn("furnish", "new Room(beds, comfort, least)", "new Room(beds, 0, least)")
                        .brokenIn("furnish", "new Room(beds, comfort, least)", "new Room(1, comfort, least)"),
                new Sentence(Terms.HEAD, Terms.FIRST_NAMED, "furnish, wrong numbers ahead of ten rooms",
                        P02FurnishEdgesTest::wrongNumbersFirst)
                        .brokenIn("furnish", "if (!within(beds, 1, 6)", "if (rooms.size() < 10 && !within(beds, 1, 6)")
                        .brokenIn("furnish", "!within(comfort, 0, 9)", "rooms.size() < 10 && !within(comfort, 0, 9)")
                        .brokenIn("furnish", "!within(least, 0, 100)", "rooms.size() < 10 && !within(least, 0, 100)"),
                new Sentence(Terms.HEAD, Terms.CHANGES_NOTHING, "furnish", P02FurnishEdgesTest::refusals)
                        .brokenAheadOf("furnish", "throw new IllegalArgumentException",
                                "throw new IllegalStateException")
                        .brokenIn("furnish", "throw new IllegalStateException",
                                "rooms.get(9).nightsLet++;\nthrow new IllegalStateException"));
    }

    private static void numbers() {
        GhostInn inn = new GhostInn();
        for (int number = 0; number <= 9; number++) {
            Check.equal("furnish for room " + number, number, inn.furnish(1, 0, 0));
        }
    }

    private static void beds() {
        for (int beds : new int[] {1, 6}) {
            furnishes(beds, 5, 20);
        }
        for (int beds : new int[] {0, 7, -1, Integer.MIN_VALUE, Integer.MAX_VALUE}) {
            refuses(beds, 5, 20);
        }
    }

    private static void comfort() {
        for (int comfort : new int[] {0, 9}) {
            furnishes(2, comfort, 20);
        }
        for (int comfort : new int[] {-1, 10, Integer.MIN_VALUE, Integer.MAX_VALUE}) {
            refuses(2, comfort, 20);
        }
    }

    private static void least() {
        for (int least : new int[] {0, 100}) {
            furnishes(2, 5, least);
        }
        for (int least : new int[] {-1, 101, Integer.MIN_VALUE, Integer.MAX_VALUE}) {
            refuses(2, 5, least);
        }
    }

    private static void furnishes(int beds, int comfort, int least) {
        GhostInn inn = new GhostInn();
        String call = name(beds, comfort, least);
        Check.equal(call, 0, inn.furnish(beds, comfort, least));
        Check.equal(call + ", its beds", beds, inn.room(0, 0));
        Check.equal(call + ", its comfort", comfort, inn.room(0, 1));
        Check.equal(call + ", its least price", least, inn.room(0, 2));
    }

    private static void refuses(int beds, int comfort, int least) {
        for (Supplier<GhostInn> made : List.<Supplier<GhostInn>>of(GhostInn::new, Inns::some)) {
            Refusal.argument(made, name(beds, comfort, least), inn -> inn.furnish(beds, comfort, least));
        }
    }

    private static void places() {
        GhostInn inn = Inns.withRooms(9);
        Check.equal("the tenth room", 9, inn.furnish(2, 5, 20));
        Check.equal("count(1)", 10, inn.count(1));
        Refusal.state(() -> Inns.withRooms(10), "the eleventh room", full -> full.furnish(2, 5, 20));
        Refusal.state(Inns::full, "the eleventh room of a full inn", full -> full.furnish(2, 5, 20));
    }

    private static void inTheirOrder() {
        GhostInn inn = new GhostInn();
        for (int room = 0; room < 10; room++) {
            inn.furnish(1 + room % 6, 9 - room, 11 * room);
        }
        for (int room = 0; room < 10; room++) {
            Check.equal("beds of room " + room, 1 + room % 6, inn.room(room, 0));
            Check.equal("comfort of room " + room, 9 - room, inn.room(room, 1));
            Check.equal("least price of room " + room, 11 * room, inn.room(room, 2));
        }
    }

    private static void wrongNumbersFirst() {
        int[][] wrong = {{0, 5, 20}, {7, 5, 20}, {2, -1, 20}, {2, 10, 20}, {2, 5, -1}, {2, 5, 101}, {0, 10, 101}};
        for (int[] w : wrong) {
            Refusal.argument(Inns::full, name(w[0], w[1], w[2]), inn -> inn.furnish(w[0], w[1], w[2]));
        }
    }

    private static void refusals() {
        refuses(0, 5, 20);
        Refusal.state(Inns::full, "the eleventh room", full -> full.furnish(2, 5, 20));
    }

    private static String name(int beds, int comfort, int least) {
        return "furnish(" + beds + ", " + comfort + ", " + least + ")";
    }
}
