import java.util.List;
import java.util.function.Supplier;

/** Promise 8: the edges that its sentences name. */
final class P08ComeEdgesTest {
    private static final String HEAD = "Promise 8: come";
    private static final String NUMBER = "Returns the number.";
    private static final String ARGUMENT = "Throws `IllegalArgumentException` if coins is not 0 to 1000,"
            + " beds is not 1 to 6, or nerve is not -9 to 90";
    private static final String STATE = "Throws `IllegalStateException` if there are 12";
    private static final String GUESTS = "There are at most 12, numbered likewise; each has coins, 0 or more,"
            + " needs beds, 1 to 6, and has nerve, -9 to 90: a guest is frightened in a room whose haunting of the"
            + " night is greater than the nerve; one with a nerve of less than 0 seeks ghosts, and is never frightened,"
            + " but bored in a room with a haunting of less than -nerve.";
    private static final String NERVE = "within(nerve, -9, MOST_NERVE)";

    public static void main(String[] args) {
        Sentence.testAll(all());
    }

    static List<Sentence> all() {
        return List.of(
                new Sentence(HEAD, NUMBER, "0 for the first one, 11 for the last one", P08ComeEdgesTest::numbers)
                        .brokenIn("come", "return guests.size() - 1", "return guests.size()")
                        .brokenIn("come", "return guests.size() - 1", "return Math.min(guests.size() - 1, 10)"),
                new Sentence(HEAD, ARGUMENT, "coins 0 and 1000, but not -1 and 1001", P08ComeEdgesTest::coins)
                        .brokenBounds("come", "coins", 0, 1000),
                new Sentence(HEAD, ARGUMENT, "beds 1 and 6, but not 0 and 7", P08ComeEdgesTest::beds)
                        .brokenBounds("come", "beds", 1, 6),
                new Sentence(HEAD, ARGUMENT, "nerve -9 and 90, but not -10 and 91", P08ComeEdgesTest::nerve)
                        .brokenIn("come", NERVE, "within(nerve, -10, MOST_NERVE)")
                        .brokenIn("come", NERVE, "within(nerve, -8, MOST_NERVE)")
                        .brokenIn("come", NERVE, "within(nerve, -9, MOST_NERVE - 1)")
                        .brokenIn("come", NERVE, "within(nerve, -9, MOST_NERVE + 1)"),
                new Sentence(HEAD, STATE, "the twelfth guest comes, the 13th does not", P08ComeEdgesTest::places)
                        .brokenIn("come", "guests.size() >= MOST_GUESTS", "guests.size() > MOST_GUESTS")
                        .brokenIn("come", "guests.size() >= MOST_GUESTS", "guests.size() >= MOST_GUESTS - 1"),
                new Sentence(Terms.HEAD, GUESTS, "from 0 to 11, each with coins, beds and nerve of its own",
                        P08ComeEdgesTest::inTheirOrder)
                        .brokenIn("come", "guests.add(new Guest", "guests.add(0, new Guest")
                        .brokenIn("come", "new Guest(coins, beds, nerve)", "new Guest(100, beds, nerve)")
                        .brokenIn("come", "new Guest(coins, beds, nerve)", "new Guest(coins, 1, nerve)")
                        .brokenIn("come", "new Guest(coins, beds, nerve)", "new Guest(coins, beds, 0)"),
                new Sentence(Terms.HEAD, Terms.FIRST_NAMED, "come, wrong numbers ahead of twelve guests",
                        P08ComeEdgesTest::wrongNumbersFirst)
                        .brokenIn("come", "!within(coins", "guests.size() < 12 && !within(coins")
                        .brokenIn("come", "!within(beds", "guests.size() < 12 && !within(beds")
                        .brokenIn("come", "!within(nerve", "guests.size() < 12 && !within(nerve"),
                new Sentence(Terms.HEAD, Terms.CHANGES_NOTHING, "come", P08ComeEdgesTest::refusals)
                        .brokenAheadOf("come", "throw new IllegalArgumentException",
                                "throw new IllegalStateException"));
    }

    private static void numbers() {
        GhostInn inn = new GhostInn();
        for (int number = 0; number <= 11; number++) {
            Check.equal("come for guest " + number, number, inn.come(0, 1, 0));
        }
    }

    private static void coins() {
        comes(0, 2, 9);
        comes(1000, 2, 9);
        for (int coins : new int[] {-1, 1001, Integer.MIN_VALUE, Integer.MAX_VALUE}) {
            refuses(coins, 2, 9);
        }
    }

    private static void beds() {
        comes(100, 1, 9);
        comes(100, 6, 9);
        for (int beds : new int[] {0, 7, -1, Integer.MIN_VALUE, Integer.MAX_VALUE}) {
            refuses(100, beds, 9);
        }
    }

    private static void nerve() {
        for (int nerve : new int[] {-9, -1, 0, 90}) {
            comes(100, 2, nerve);
        }
        for (int nerve : new int[] {-10, 91, Integer.MIN_VALUE, Integer.MAX_VALUE}) {
            refuses(100, 2, nerve);
        }
    }

    private static void comes(int coins, int beds, int nerve) {
        GhostInn inn = new GhostInn();
        String call = name(coins, beds, nerve);
        Check.equal(call, 0, inn.come(coins, beds, nerve));
        int[] due = {coins, beds, nerve, -1, 0, 0, 0};
        for (int what = 0; what < 7; what++) {
            Check.equal(call + ", guest(0, " + what + ")", due[what], inn.guest(0, what));
        }
    }

    private static void refuses(int coins, int beds, int nerve) {
        for (Supplier<GhostInn> made : List.<Supplier<GhostInn>>of(GhostInn::new, Inns::some)) {
            Refusal.argument(made, name(coins, beds, nerve), inn -> inn.come(coins, beds, nerve));
        }
    }

    private static void places() {
        GhostInn inn = Inns.withGuests(11);
        Check.equal("the twelfth guest", 11, inn.come(0, 1, 0));
        Check.equal("count(4)", 12, inn.count(4));
        Refusal.state(() -> Inns.withGuests(12), "the 13th guest", full -> full.come(0, 1, 0));
        Refusal.state(Inns::full, "the 13th guest of a full inn", full -> full.come(1000, 6, 90));
    }

    private static void inTheirOrder() {
        GhostInn inn = new GhostInn();
        for (int guest = 0; guest < 12; guest++) {
            inn.come(90 * guest, 1 + guest % 6, 9 * guest - 9);
        }
        for (int guest = 0; guest < 12; guest++) {
            Check.equal("coins of guest " + guest, 90 * guest, inn.guest(guest, 0));
            Check.equal("beds for guest " + guest, 1 + guest % 6, inn.guest(guest, 1));
            Check.equal("nerve of guest " + guest, 9 * guest - 9, inn.guest(guest, 2));
        }
    }

    private static void wrongNumbersFirst() {
        int[][] wrong = {{-1, 2, 9}, {1001, 2, 9}, {100, 0, 9}, {100, 7, 9}, {100, 2, -10}, {100, 2, 91},
            {-1, 0, 91}};
        for (int[] w : wrong) {
            Refusal.argument(() -> Inns.withGuests(12), name(w[0], w[1], w[2]), inn -> inn.come(w[0], w[1], w[2]));
        }
    }

    private static void refusals() {
        refuses(-1, 2, 9);
        Refusal.state(Inns::full, "the 13th guest", full -> full.come(0, 1, 0));
    }

    private static String name(int coins, int beds, int nerve) {
        return "come(" + coins + ", " + beds + ", " + nerve + ")";
    }
}
