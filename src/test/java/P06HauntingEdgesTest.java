import java.util.List;

/** Promise 6: the edges that its sentences name. */
final class P06HauntingEdgesTest {
    private static final String HEAD = "Promise 6: haunting";
    private static final String HOUR = "an hour; -1 for the whole night";
    private static final String RETURNS = "Returns its haunting.";
    private static final String INDEX = "Throws `IndexOutOfBoundsException` if there is no such room,"
            + " or hour is not -1 to 11";
    private static final String ADDED = "The haunting of a room in an hour is the fright of all ghosts there who are"
            + " awake, added; that of a night is that of all its hours, added.";
    private static final String BOUNDS = "within(hour, -1, HOURS - 1)";

    public static void main(String[] args) {
        Sentence.testAll(all());
    }

    static List<Sentence> all() {
        return List.of(
                new Sentence(HEAD, HOUR, "-1 is the whole night, 0 and 11 are hours", P06HauntingEdgesTest::wholeNight)
                        .brokenIn("haunting", "hour == -1", "hour <= 0")
                        .brokenIn("haunting", "hour == -1", "hour == -1 || hour == 11")
                        .brokenIn("haunting", "hour == -1 ?", "hour == -2 ?"),
                new Sentence(HEAD, RETURNS, "0 with no ghost yet, and for a room where none comes",
                        P06HauntingEdgesTest::nothingThere)
                        .brokenIn("hauntingInHour", "int sum = 0", "int sum = 1")
                        .brokenIn("hauntingOfNight", "int sum = 0", "int sum = 1")
                        .brokenIn("hauntingInHour", "ghost.placeIn(hour) == room", "ghost.placeIn(hour) <= room"),
                new Sentence(HEAD, RETURNS, "540 at most, five ghosts of fright 9 for the whole night",
                        P06HauntingEdgesTest::mostHaunting)
                        .brokenIn("hauntingOfNight", "return sum", "return Math.min(sum, 539)")
                        .brokenIn("hauntingInHour", "return sum", "return Math.min(sum, 44)"),
                new Sentence(HEAD, INDEX, "no room yet", P06HauntingEdgesTest::noRoomYet)
                        .brokenIn("haunting", "!isRoom(room)", "room != 0 && !isRoom(room)"),
                new Sentence(HEAD, INDEX, "the first and the last room, but not those beside them",
                        P06HauntingEdgesTest::rooms)
                        .brokenIn("haunting", "!isRoom(room)", "room < 0")
                        .brokenIn("haunting", "!isRoom(room)", "room >= rooms.size()")
                        .brokenIn("haunting", "!isRoom(room)", "room < -1 || room >= rooms.size()")
                        .brokenIn("haunting", "!isRoom(room)", "room < 0 || room > rooms.size()")
                        .brokenIn("haunting", "!isRoom(room)", "!isRoom(room) || room == 9"),
                new Sentence(HEAD, INDEX, "the hours -1 and 11, but not -2 and 12", P06HauntingEdgesTest::hours)
                        .brokenIn("haunting", BOUNDS, "within(hour, -2, HOURS - 1)")
                        .brokenIn("haunting", BOUNDS, "within(hour, 0, HOURS - 1)")
                        .brokenIn("haunting", BOUNDS, "within(hour, -1, HOURS - 2)")
                        .brokenIn("haunting", BOUNDS, "within(hour, -1, HOURS)"),
                new Sentence(Terms.HEAD, Terms.CHANGES_NOTHING, "haunting", P06HauntingEdgesTest::refusals)
                        .brokenAheadOf("haunting", "throw new IndexOutOfBoundsException(\"no such room",
                                "throw new IndexOutOfBoundsException(\"no such hour"),
                new Sentence(Terms.HEAD, ADDED, "in the first and the last hour in which one is awake, not beside them",
                        P06HauntingEdgesTest::whoIsAwake)
                        .brokenIn("isAwakeIn", "hour >= wakes", "hour >= wakes - 1")
                        .brokenIn("isAwakeIn", "hour < bed", "hour <= bed")
                        .brokenIn("isAwakeIn", "hour < bed", "hour < bed - 1"),
                new Sentence(Terms.HEAD, ADDED, "the hours 0 and 11 are of the night", P06HauntingEdgesTest::allHours)
                        .brokenIn("hauntingOfNight", "int hour = 0", "int hour = 1")
                        .brokenIn("hauntingOfNight", "hour < HOURS", "hour < HOURS - 1"),
                new Sentence(Terms.HEAD, ADDED, "all five ghosts, the first and the last one too",
                        P06HauntingEdgesTest::allGhosts)
                        .brokenIn("hauntingInHour", "int number = 0", "int number = 1")
                        .brokenIn("hauntingInHour", "number < ghosts.size()", "number < ghosts.size() - 1")
                        .brokenIn("hauntingInHour", "sum += ghost.fright", "sum = ghost.fright"));
    }

    private static void wholeNight() {
        GhostInn inn = Inns.withRooms(1);
        inn.haunt(0, 2, 0, 12);
        inn.haunt(0, 3, 0, 1);
        inn.haunt(0, 4, 11, 12);
        Check.equal("haunting(0, -1)", 12 * 2 + 3 + 4, inn.haunting(0, -1));
        Check.equal("haunting(0, 0)", 5, inn.haunting(0, 0));
        Check.equal("haunting(0, 1)", 2, inn.haunting(0, 1));
        Check.equal("haunting(0, 11)", 6, inn.haunting(0, 11));
    }

    private static void nothingThere() {
        GhostInn inn = Inns.withRooms(2);
        for (int hour = -1; hour <= 11; hour++) {
            Check.equal("without ghosts, haunting(0, " + hour + ")", 0, inn.haunting(0, hour));
        }
        inn.haunt(0, 9, 3, 9);
        for (int hour = -1; hour <= 11; hour++) {
            Check.equal("where none comes, haunting(1, " + hour + ")", 0, inn.haunting(1, hour));
        }
        Check.equal("in bed, haunting(0, 2)", 0, inn.haunting(0, 2));
    }

    private static void mostHaunting() {
        GhostInn inn = Inns.withRooms(10);
        for (int ghost = 0; ghost < 5; ghost++) {
            inn.haunt(9, 9, 0, 12);
        }
        Check.equal("haunting(9, 0)", 45, inn.haunting(9, 0));
        Check.equal("haunting(9, 11)", 45, inn.haunting(9, 11));
        Check.equal("haunting(9, -1)", 540, inn.haunting(9, -1));
    }

    private static void noRoomYet() {
        refuses(0, 0, 0);
        refuses(0, 0, -1);
    }

    private static void rooms() {
        for (int rooms : new int[] {1, 2, 10}) {
            for (int none : new int[] {-1, rooms, Integer.MIN_VALUE, Integer.MAX_VALUE}) {
                refuses(rooms, none, 0);
                refuses(rooms, none, -1);
            }
        }
        GhostInn inn = Inns.withRooms(10);
        inn.haunt(0, 3, 0, 1);
        inn.haunt(9, 4, 0, 1);
        Check.equal("the first room", 3, inn.haunting(0, 0));
        Check.equal("the last room", 4, inn.haunting(9, 0));
    }

    private static void hours() {
        for (int hour : new int[] {-2, 12, 13, Integer.MIN_VALUE, Integer.MAX_VALUE}) {
            refuses(1, 0, hour);
        }
        GhostInn inn = Inns.withRooms(1);
        inn.haunt(0, 7, 11, 12);
        Check.equal("haunting(0, -1)", 7, inn.haunting(0, -1));
        Check.equal("haunting(0, 11)", 7, inn.haunting(0, 11));
    }

    private static void refuses(int rooms, int room, int hour) {
        Refusal.index(() -> Inns.withRooms(rooms), "haunting(" + room + ", " + hour + ") of " + rooms,
                inn -> inn.haunting(room, hour));
    }

    private static void refusals() {
        refuses(1, 1, 0);
        refuses(1, 0, 12);
        Refusal.index(Inns::full, "haunting(10, -2)", inn -> inn.haunting(10, -2));
    }

    private static void whoIsAwake() {
        GhostInn inn = Inns.withRooms(1);
        inn.haunt(0, 1, 2, 5);
        inn.haunt(0, 3, 5, 6);
        int[] due = {0, 0, 1, 1, 1, 3, 0, 0, 0, 0, 0, 0};
        for (int hour = 0; hour < 12; hour++) {
            Check.equal("haunting(0, " + hour + ")", due[hour], inn.haunting(0, hour));
        }
        Check.equal("haunting(0, -1)", 6, inn.haunting(0, -1));
    }

    private static void allHours() {
        GhostInn inn = Inns.withRooms(2);
        inn.door(0, 1);
        inn.haunt(0, 5, 0, 1);
        Check.equal("the hour 0", 5, inn.haunting(0, -1));
        inn.haunt(1, 3, 11, 12);
        Check.equal("the hour 11", 3, inn.haunting(1, -1));
        inn.haunt(0, 1, 0, 12);
        Check.equal("room 0 in every second hour", 5 + 6, inn.haunting(0, -1));
        Check.equal("room 1 in every second hour", 3 + 6, inn.haunting(1, -1));
    }

    private static void allGhosts() {
        GhostInn inn = Inns.withRooms(1);
        int[] frights = {1, 2, 4, 5, 9};
        int sum = 0;
        for (int fright : frights) {
            inn.haunt(0, fright, 6, 7);
            sum += fright;
            Check.equal("with the one of fright " + fright, sum, inn.haunting(0, 6));
            Check.equal("with the one of fright " + fright + ", the night", sum, inn.haunting(0, -1));
        }
    }
}
