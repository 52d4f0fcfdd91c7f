import java.util.List;
import java.util.function.Supplier;

/** Promise 4: the edges that its sentences name. */
final class P04HauntEdgesTest {
    private static final String HEAD = "Promise 4: haunt";
    private static final String NUMBER = "Returns its number.";
    private static final String INDEX = "Throws `IndexOutOfBoundsException` if there is no such room";
    private static final String ARGUMENT = "Throws `IllegalArgumentException` if fright is not 1 to 9,"
            + " wakes is not 0 to 11, or bed is not greater than wakes, up to 12";
    private static final String STATE = "Throws `IllegalStateException` if there are 5";
    private static final String GHOSTS = "There are at most 5, numbered likewise; each has a fright, 1 to 9,"
            + " wakes at an hour, 0 to 11, at home in a room, and goes to bed at a later hour, up to 12.";
    private static final String WAKES = "within(wakes, 0, HOURS - 1)";
    private static final String BED = "within(bed, wakes + 1, HOURS)";
    private static final String PLACES = "ghosts.size() >= MOST_GHOSTS";

    public static void main(String[] args) {
        Sentence.testAll(all());
    }

    static List<Sentence> all() {
        return List.of(
                new Sentence(HEAD, NUMBER, "0 for the first one, 4 for the last one", P04HauntEdgesTest::numbers)
                        .brokenIn("haunt", "return ghosts.size() - 1", "return ghosts.size()")
                        .brokenIn("haunt", "return ghosts.size() - 1", "return Math.min(ghosts.size() - 1, 3)"),
                new Sentence(HEAD, INDEX, "no room yet", P04HauntEdgesTest::noRoomYet)
                        .brokenIn("haunt", "!isRoom(room)", "room != 0 && !isRoom(room)"),
                new Sentence(HEAD, INDEX, "the first and the last room, but not those beside them",
                        P04HauntEdgesTest::rooms)
                        .brokenIn("haunt", "!isRoom(room)", "room < 0")
                        .brokenIn("haunt", "!isRoom(room)", "room < -1 || room >= rooms.size()")
                        .brokenIn("haunt", "!isRoom(room)", "!isRoom(room) || room == 0")
                        .brokenIn("haunt", "!isRoom(room)", "!isRoom(room) || room == 9")
                        .brokenIn("haunt", "!isRoom(room)", "room < 0 || room > rooms.size()"),
                new Sentence(HEAD, ARGUMENT, "fright 1 and 9, but not 0 and 10", P04HauntEdgesTest::fright)
                        .brokenBounds("haunt", "fright", 1, 9),
                new Sentence(HEAD, ARGUMENT, "wakes 0 and 11, but not -1 and 12", P04HauntEdgesTest::wakes)
                        .brokenIn("haunt", WAKES, "within(wakes, -1, HOURS - 1)")
                        .brokenIn("haunt", WAKES, "within(wakes, 1, HOURS - 1)")
                        .brokenIn("haunt", WAKES, "within(wakes, 0, HOURS - 2)")
                        .brokenIn("haunt", WAKES + " || !" + BED, "within(wakes, 0, HOURS) || bed > HOURS + 1"),
                new Sentence(HEAD, ARGUMENT, "bed an hour behind wakes, but not the hour itself",
                        P04HauntEdgesTest::bedBehindWakes)
                        .brokenIn("haunt", BED, "within(bed, wakes, HOURS)")
                        .brokenIn("haunt", BED, "within(bed, wakes + 2, HOURS)")
                        .brokenIn("haunt", BED, "within(bed, 1, HOURS)"),
                new Sentence(HEAD, ARGUMENT, "bed 12, but not 13", P04HauntEdgesTest::bedUpToTwelve)
                        .brokenIn("haunt", BED, "within(bed, wakes + 1, HOURS + 1)")
                        .brokenIn("haunt", BED, "within(bed, wakes + 1, HOURS - 1)")
                        .brokenIn("haunt", BED, "(bed > wakes)"),
                new Sentence(HEAD, STATE, "the fifth ghost comes, the sixth does not", P04HauntEdgesTest::places)
                        .brokenIn("haunt", PLACES, "ghosts.size() > MOST_GHOSTS")
                        .brokenIn("haunt", PLACES, "ghosts.size() >= MOST_GHOSTS - 1"),
                new Sentence(Terms.HEAD, GHOSTS, "from 0 to 4, each with its own fright, room and hours",
                        P04HauntEdgesTest::inTheirOrder)
                        .brokenIn("haunt", "ghosts.add(ghost)", "ghosts.add(0, ghost)")
                        .brokenIn("haunt", "new Ghost(room, fright, wakes, bed)", "new Ghost(0, fright, wakes, bed)")
                        .brokenIn("haunt", "new Ghost(room, fright, wakes, bed)", "new Ghost(room, 1, wakes, bed)")
                        .brokenIn("haunt", "new Ghost(room, fright, wakes, bed)",
                                "new Ghost(room, fright, wakes, wakes + 1)")
                        .brokenIn("haunt", "planWay(ghost);", ""),
                new Sentence(Terms.HEAD, Terms.FIRST_NAMED, "haunt, no such room ahead of wrong numbers",
                        P04HauntEdgesTest::noRoomAheadOfNumbers)
                        .brokenIn("haunt", "!isRoom(room)", "within(fright, 1, 9) && !isRoom(room)")
                        .brokenIn("haunt", "!isRoom(room)", "within(wakes, 0, 11) && !isRoom(room)")
                        .brokenIn("haunt", "!isRoom(room)", "bed <= 12 && !isRoom(room)"),
                new Sentence(Terms.HEAD, Terms.FIRST_NAMED, "haunt, no such room ahead of five ghosts",
                        P04HauntEdgesTest::noRoomAheadOfAllGhosts)
                        .brokenIn("haunt", "!isRoom(room)", "ghosts.size() < 5 && !isRoom(room)"),
                new Sentence(Terms.HEAD, Terms.FIRST_NAMED, "haunt, wrong numbers ahead of five ghosts",
                        P04HauntEdgesTest::numbersAheadOfAllGhosts)
                        .brokenIn("haunt", "!within(fright", "ghosts.size() < 5 && !within(fright")
                        .brokenIn("haunt", "!within(wakes", "ghosts.size() < 5 && !within(wakes")
                        .brokenIn("haunt", "!within(bed", "ghosts.size() < 5 && !within(bed"),
                new Sentence(Terms.HEAD, Terms.CHANGES_NOTHING, "haunt", P04HauntEdgesTest::refusals)
                        .brokenAheadOf("haunt", "throw new IndexOutOfBoundsException",
                                "throw new IllegalArgumentException", "throw new IllegalStateException"));
    }

    private static void numbers() {
        GhostInn inn = Inns.withRooms(1);
        for (int number = 0; number <= 4; number++) {
            Check.equal("haunt for ghost " + number, number, inn.haunt(0, 1, 0, 1));
        }
    }

    private static void noRoomYet() {
        refusesIndex(0, 0);
        Check.equal("with one room", 0, Inns.withRooms(1).haunt(0, 1, 0, 1));
    }

    private static void rooms() {
        for (int rooms : new int[] {1, 2, 10}) {
            for (int none : new int[] {-1, rooms, Integer.MIN_VALUE, Integer.MAX_VALUE}) {
                refusesIndex(rooms, none);
            }
        }
        GhostInn inn = Inns.withRooms(10);
        inn.haunt(0, 1, 3, 4);
        inn.haunt(9, 1, 3, 4);
        Check.equal("at home in the first room", 0, inn.at(0, 3));
        Check.equal("at home in the last room", 9, inn.at(1, 3));
    }

    private static void refusesIndex(int rooms, int room) {
        Refusal.index(() -> Inns.withRooms(rooms), name(room, 1, 0, 1) + " of " + rooms,
                inn -> inn.haunt(room, 1, 0, 1));
    }

    private static void fright() {
        haunts(1, 3, 5);
        haunts(9, 3, 5);
        for (int fright : new int[] {0, 10, -1, Integer.MIN_VALUE, Integer.MAX_VALUE}) {
            refuses(fright, 3, 5);
        }
    }

    private static void wakes() {
        haunts(4, 0, 1);
        haunts(4, 0, 12);
        haunts(4, 11, 12);
        for (int wakes : new int[] {-1, 12, 13, Integer.MIN_VALUE, Integer.MAX_VALUE}) {
            refuses(4, wakes, 12);
            refuses(4, wakes, 13);
            refuses(4, wakes, wakes + 1);
        }
    }

    private static void bedBehindWakes() {
        for (int wakes = 0; wakes <= 11; wakes++) {
            haunts(4, wakes, wakes + 1);
            refuses(4, wakes, wakes);
            refuses(4, wakes, wakes - 1);
        }
        refuses(4, 3, 0);
        refuses(4, 3, Integer.MIN_VALUE);
    }

    private static void bedUpToTwelve() {
        for (int wakes : new int[] {0, 10, 11}) {
            haunts(4, wakes, 12);
            refuses(4, wakes, 13);
            refuses(4, wakes, Integer.MAX_VALUE);
        }
    }

    private static void haunts(int fright, int wakes, int bed) {
        GhostInn inn = Inns.withRooms(1);
        String call = name(0, fright, wakes, bed);
        Check.equal(call, 0, inn.haunt(0, fright, wakes, bed));
        for (int hour = 0; hour < 12; hour++) {
            boolean awake = hour >= wakes && hour < bed;
            Check.equal(call + ", at(0, " + hour + ")", awake ? 0 : -1, inn.at(0, hour));
            Check.equal(call + ", haunting(0, " + hour + ")", awake ? fright : 0, inn.haunting(0, hour));
        }
    }

    private static void refuses(int fright, int wakes, int bed) {
        for (Supplier<GhostInn> made : List.<Supplier<GhostInn>>of(() -> Inns.withRooms(1), Inns::some)) {
            Refusal.argument(made, name(0, fright, wakes, bed), inn -> inn.haunt(0, fright, wakes, bed));
        }
    }

    private static void places() {
        GhostInn inn = Inns.withGhosts(4);
        Check.equal("the fifth ghost", 4, inn.haunt(1, 9, 0, 12));
        Check.equal("count(3)", 5, inn.count(3));
        Refusal.state(() -> Inns.withGhosts(5), "the sixth ghost", full -> full.haunt(1, 9, 0, 12));
        Refusal.state(Inns::full, "the sixth ghost of a full inn", full -> full.haunt(9, 1, 11, 12));
    }

    private static void inTheirOrder() {
        GhostInn inn = Inns.withRooms(10);
        for (int ghost = 0; ghost < 5; ghost++) {
            inn.haunt(9 - 2 * ghost, 1 + 2 * ghost, ghost, 12 - ghost);
        }
        for (int ghost = 0; ghost < 5; ghost++) {
            int home = 9 - 2 * ghost;
            for (int hour = 0; hour < 12; hour++) {
                boolean awake = hour >= ghost && hour < 12 - ghost;
                Check.equal("at(" + ghost + ", " + hour + ")", awake ? home : -1, inn.at(ghost, hour));
            }
            Check.equal("the haunting of its room", (1 + 2 * ghost) * (12 - 2 * ghost), inn.haunting(home, -1));
        }
    }

    private static void noRoomAheadOfNumbers() {
        int[][] wrong = {{0, 3, 5}, {10, 3, 5}, {4, -1, 5}, {4, 12, 12}, {4, 3, 13}, {0, 12, 13}};
        for (int[] w : wrong) {
            for (int none : new int[] {-1, 2}) {
                Refusal.index(() -> Inns.withRooms(2), name(none, w[0], w[1], w[2]),
                        inn -> inn.haunt(none, w[0], w[1], w[2]));
            }
            Refusal.index(GhostInn::new, name(0, w[0], w[1], w[2]) + " of none",
                    inn -> inn.haunt(0, w[0], w[1], w[2]));
        }
    }

    private static void noRoomAheadOfAllGhosts() {
        for (int none : new int[] {-1, 2}) {
            Refusal.index(() -> Inns.withGhosts(5), name(none, 1, 0, 1), inn -> inn.haunt(none, 1, 0, 1));
            Refusal.index(() -> Inns.withGhosts(5), name(none, 0, 0, 0), inn -> inn.haunt(none, 0, 0, 0));
        }
    }

    private static void numbersAheadOfAllGhosts() {
        int[][] wrong = {{0, 3, 5}, {10, 3, 5}, {4, -1, 5}, {4, 12, 13}, {4, 3, 3}, {4, 3, 13}, {0, 12, 13}};
        for (int[] w : wrong) {
            Refusal.argument(() -> Inns.withGhosts(5), name(0, w[0], w[1], w[2]),
                    inn -> inn.haunt(0, w[0], w[1], w[2]));
        }
    }

    private static void refusals() {
        refusesIndex(2, 2);
        refuses(0, 3, 5);
        Refusal.state(Inns::full, "the sixth ghost", full -> full.haunt(0, 1, 0, 1));
    }

    private static String name(int room, int fright, int wakes, int bed) {
        return "haunt(" + room + ", " + fright + ", " + wakes + ", " + bed + ")";
    }
}
