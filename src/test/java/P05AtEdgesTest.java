import java.util.List;

/** Promise 5: the edges that its sentences name, and those of the ghosts' ways. */
final class P05AtEdgesTest {
    private static final String HEAD = "Promise 5: at";
    private static final String RETURNS = "Returns the room where it is then, -1 if it is not awake.";
    private static final String INDEX = "Throws `IndexOutOfBoundsException` if there is no such ghost,"
            + " or hour is not 0 to 11";
    private static final String AWAKE = "It is awake from the one hour on, and no more from the other one on.";
    private static final String WAY = "In its first hour it is at home; in each hour behind it it is in the next room:"
            + " of those to which a door leads from the room where it was, the one with the smallest number greater"
            + " than that of this room, or, if there is none greater, the one with the smallest number of them;"
            + " without doors it stays.";
    private static final String HOUR = "within(hour, 0, HOURS - 1)";

    public static void main(String[] args) {
        Sentence.testAll(all());
    }

    static List<Sentence> all() {
        return List.of(
                new Sentence(HEAD, RETURNS, "room 0 is a room, -1 is none", P05AtEdgesTest::roomZero)
                        .brokenIn("at", "return ghosts", "return -1 + ghosts")
                        .brokenIn("planWay", "place : NONE", "place : 0")
                        .brokenIn("planWay", "? place", "? place == 0 ? NONE : place"),
                new Sentence(HEAD, RETURNS, "the last room", P05AtEdgesTest::lastRoom)
                        .brokenIn("planWay", "? place", "? Math.min(place, 8)"),
                new Sentence(HEAD, INDEX, "no ghost yet", P05AtEdgesTest::noGhostYet)
                        .brokenIn("at", "!isGhost(ghost)", "ghost != 0 && !isGhost(ghost)"),
                new Sentence(HEAD, INDEX, "the first and the last ghost, but not those beside them",
                        P05AtEdgesTest::ghosts)
                        .brokenIn("isGhost", "number >= 0", "number > 0")
                        .brokenIn("isGhost", "number >= 0", "number >= -1")
                        .brokenIn("isGhost", "number < ghosts.size()", "number <= ghosts.size()")
                        .brokenIn("isGhost", "number < ghosts.size()", "number < ghosts.size() - 1")
                        .brokenIn("at", "!isGhost(ghost)", "!isGhost(ghost) || ghost == 4"),
                new Sentence(HEAD, INDEX, "the hours 0 and 11, but not -1 and 12", P05AtEdgesTest::hours)
                        .brokenIn("at", HOUR, "within(hour, -1, HOURS - 1)")
                        .brokenIn("at", HOUR, "within(hour, 1, HOURS - 1)")
                        .brokenIn("at", HOUR, "within(hour, 0, HOURS - 2)")
                        .brokenIn("at", HOUR, "within(hour, 0, HOURS)"),
                new Sentence(Terms.HEAD, Terms.CHANGES_NOTHING, "at", P05AtEdgesTest::refusals)
                        .brokenAheadOf("at", "throw new IndexOutOfBoundsException(\"no such ghost",
                                "throw new IndexOutOfBoundsException(\"no such hour"),
                new Sentence(Terms.HEAD, AWAKE, "in the hour in which it wakes, but not in the one ahead of it",
                        P05AtEdgesTest::wakes)
                        .brokenIn("isAwakeIn", "hour >= wakes", "hour > wakes")
                        .brokenIn("isAwakeIn", "hour >= wakes", "hour >= wakes - 1"),
                new Sentence(Terms.HEAD, AWAKE, "in the hour ahead of its bedtime, but not in its bedtime",
                        P05AtEdgesTest::bedtime)
                        .brokenIn("isAwakeIn", "hour < bed", "hour <= bed")
                        .brokenIn("isAwakeIn", "hour < bed", "hour < bed - 1"),
                new Sentence(Terms.HEAD, WAY, "at home in its first hour, not in the one behind it",
                        P05AtEdgesTest::firstHour)
                        .brokenIn("planWay", "hour > ghost.wakes", "hour >= ghost.wakes")
                        .brokenIn("planWay", "hour > ghost.wakes", "hour > 0")
                        .brokenIn("planWay", "hour > ghost.wakes", "hour > ghost.wakes + 1"),
                new Sentence(Terms.HEAD, WAY, "the smallest of the greater numbers", P05AtEdgesTest::smallestGreater)
                        .brokenIn("nextRoom", "number > here", "number > here + 1")
                        .brokenIn("nextRoom", "return number", "smallest = number")
                        .brokenIn("nextRoom", "number > here", "number < here"),
                new Sentence(Terms.HEAD, WAY, "none greater: round to the smallest number",
                        P05AtEdgesTest::comesRound)
                        .brokenIn("nextRoom", "smallest == NONE)", "true)")
                        .brokenIn("nextRoom", "return smallest == NONE ? here : smallest", "return here")
                        .brokenIn("nextRoom", "int number = 0", "int number = 1"),
                new Sentence(Terms.HEAD, WAY, "without doors it stays", P05AtEdgesTest::stays)
                        .brokenIn("nextRoom", "smallest == NONE ? here", "smallest == NONE ? 0")
                        .brokenIn("nextRoom", "smallest == NONE ? here", "smallest == NONE ? NONE"),
                new Sentence(Terms.HEAD, WAY, "through a door that was made behind its coming, in both directions",
                        P05AtEdgesTest::newDoor)
                        .brokenIn("door", "planAllWays();", "")
                        .brokenIn("planAllWays", "ghost = 0", "ghost = 1")
                        .brokenIn("door", "one.openTo(b);", "")
                        .brokenIn("door", "other.openTo(a);", ""),
                new Sentence(Terms.HEAD, WAY, "with all doors taken, each hour of the night",
                        P05AtEdgesTest::allDoors)
                        .brokenIn("nextRoom", "number < rooms.size()", "number < rooms.size() - 1")
                        .brokenIn("planWay", "hour < HOURS", "hour < HOURS - 1")
                        .brokenIn("openTo", "1 << room", "1 << (room & 7)"));
    }

    private static void roomZero() {
        GhostInn inn = Inns.withRooms(2);
        inn.haunt(0, 1, 5, 7);
        way(inn, 0, -1, -1, -1, -1, -1, 0, 0, -1, -1, -1, -1, -1);
    }

    private static void lastRoom() {
        GhostInn inn = Inns.withRooms(10);
        inn.haunt(9, 1, 5, 7);
        way(inn, 0, -1, -1, -1, -1, -1, 9, 9, -1, -1, -1, -1, -1);
    }

    private static void noGhostYet() {
        Refusal.index(GhostInn::new, "at(0, 0) without rooms", inn -> inn.at(0, 0));
        Refusal.index(() -> Inns.withRooms(10), "at(0, 0) with rooms", inn -> inn.at(0, 0));
        Refusal.index(() -> Inns.withRooms(10), "at(0, 11) with rooms", inn -> inn.at(0, 11));
    }

    private static void ghosts() {
        for (int ghosts : new int[] {1, 2, 5}) {
            for (int none : new int[] {-1, ghosts, Integer.MIN_VALUE, Integer.MAX_VALUE}) {
                refuses(ghosts, none, 0);
                refuses(ghosts, none, 11);
            }
        }
        GhostInn inn = Inns.withGhosts(5);
        Check.equal("the first ghost", 0, inn.at(0, 0));
        Check.equal("the last ghost", 0, inn.at(4, 4));
    }

    private static void hours() {
        for (int hour : new int[] {-1, 12, 13, Integer.MIN_VALUE, Integer.MAX_VALUE}) {
            refuses(1, 0, hour);
            refuses(1, 1, hour);
        }
        GhostInn inn = Inns.withRooms(1);
        inn.haunt(0, 1, 0, 12);
        Check.equal("at(0, 0)", 0, inn.at(0, 0));
        Check.equal("at(0, 11)", 0, inn.at(0, 11));
    }

    private static void refuses(int ghosts, int ghost, int hour) {
        Refusal.index(() -> Inns.withGhosts(ghosts), "at(" + ghost + ", " + hour + ") of " + ghosts,
                inn -> inn.at(ghost, hour));
    }

    private static void refusals() {
        refuses(5, 5, 0);
        refuses(5, 0, 12);
        Refusal.index(Inns::full, "at(-1, -1)", inn -> inn.at(-1, -1));
    }

    private static void wakes() {
        for (int wakes = 0; wakes <= 11; wakes++) {
            GhostInn inn = Inns.withRooms(1);
            inn.haunt(0, 1, wakes, 12);
            if (wakes > 0) {
                Check.equal("wakes " + wakes + ", the hour ahead", -1, inn.at(0, wakes - 1));
            }
            Check.equal("wakes " + wakes + ", this hour", 0, inn.at(0, wakes));
        }
    }

    private static void bedtime() {
        for (int bed = 1; bed <= 12; bed++) {
            GhostInn inn = Inns.withRooms(1);
            inn.haunt(0, 1, 0, bed);
            Check.equal("bed " + bed + ", the hour ahead", 0, inn.at(0, bed - 1));
            if (bed < 12) {
                Check.equal("bed " + bed + ", this hour", -1, inn.at(0, bed));
            }
        }
    }

    private static void firstHour() {
        GhostInn inn = Inns.withRooms(2);
        inn.door(0, 1);
        inn.haunt(0, 1, 0, 3);
        inn.haunt(0, 1, 4, 7);
        inn.haunt(1, 1, 11, 12);
        inn.haunt(1, 1, 10, 12);
        way(inn, 0, 0, 1, 0, -1, -1, -1, -1, -1, -1, -1, -1, -1);
        way(inn, 1, -1, -1, -1, -1, 0, 1, 0, -1, -1, -1, -1, -1);
        way(inn, 2, -1, -1, -1, -1, -1, -1, -1, -1, -1, -1, -1, 1);
        way(inn, 3, -1, -1, -1, -1, -1, -1, -1, -1, -1, -1, 1, 0);
    }

    private static void smallestGreater() {
        GhostInn inn = Inns.withRooms(6);
        for (int room : new int[] {5, 4, 3, 1, 0}) {
            inn.door(2, room);
        }
        inn.haunt(2, 1, 0, 2);
        way(inn, 0, 2, 3, -1, -1, -1, -1, -1, -1, -1, -1, -1, -1);
        GhostInn chain = Inns.withRooms(4);
        chain.door(0, 1);
        chain.door(1, 2);
        chain.door(2, 3);
        chain.haunt(0, 1, 0, 6);
        way(chain, 0, 0, 1, 2, 3, 2, 3, -1, -1, -1, -1, -1, -1);
    }

    private static void comesRound() {
        GhostInn inn = Inns.withRooms(10);
        inn.door(9, 5);
        inn.door(9, 0);
        inn.door(9, 8);
        inn.haunt(9, 1, 0, 5);
        way(inn, 0, 9, 0, 9, 0, 9, -1, -1, -1, -1, -1, -1, -1);
        GhostInn ring = Inns.withRooms(3);
        ring.door(0, 1);
        ring.door(1, 2);
        ring.door(2, 0);
        ring.haunt(1, 1, 0, 12);
        way(ring, 0, 1, 2, 0, 1, 2, 0, 1, 2, 0, 1, 2, 0);
        GhostInn lower = Inns.withRooms(3);
        lower.door(2, 1);
        lower.haunt(2, 1, 0, 3);
        way(lower, 0, 2, 1, 2, -1, -1, -1, -1, -1, -1, -1, -1, -1);
    }

    private static void stays() {
        GhostInn inn = Inns.withRooms(4);
        inn.door(0, 3);
        inn.haunt(1, 1, 0, 12);
        inn.haunt(2, 1, 10, 12);
        way(inn, 0, 1, 1, 1, 1, 1, 1, 1, 1, 1, 1, 1, 1);
        way(inn, 1, -1, -1, -1, -1, -1, -1, -1, -1, -1, -1, 2, 2);
    }

    private static void newDoor() {
        GhostInn inn = Inns.withRooms(3);
        inn.haunt(0, 1, 0, 4);
        inn.haunt(1, 1, 0, 4);
        inn.haunt(2, 1, 0, 4);
        inn.door(0, 1);
        way(inn, 0, 0, 1, 0, 1, -1, -1, -1, -1, -1, -1, -1, -1);
        way(inn, 1, 1, 0, 1, 0, -1, -1, -1, -1, -1, -1, -1, -1);
        way(inn, 2, 2, 2, 2, 2, -1, -1, -1, -1, -1, -1, -1, -1);
        inn.door(2, 1);
        way(inn, 0, 0, 1, 2, 1, -1, -1, -1, -1, -1, -1, -1, -1);
        way(inn, 2, 2, 1, 2, 1, -1, -1, -1, -1, -1, -1, -1, -1);
    }

    private static void allDoors() {
        GhostInn inn = Inns.withDoors(20);
        inn.haunt(2, 1, 0, 12);
        inn.haunt(9, 1, 0, 12);
        way(inn, 0, 2, 3, 0, 1, 2, 3, 0, 1, 2, 3, 0, 1);
        way(inn, 1, 9, 0, 1, 2, 3, 0, 1, 2, 3, 0, 1, 2);
        GhostInn last = Inns.withRooms(10);
        last.door(8, 9);
        last.door(0, 8);
        last.haunt(8, 1, 0, 12);
        way(last, 0, 8, 9, 8, 9, 8, 9, 8, 9, 8, 9, 8, 9);
    }

    private static void way(GhostInn inn, int ghost, int... due) {
        for (int hour = 0; hour < 12; hour++) {
            Check.equal("at(" + ghost + ", " + hour + ")", due[hour], inn.at(ghost, hour));
        }
    }
}
