import java.util.List;

/** Promise 3: the edges that its sentences name. */
final class P03DoorEdgesTest {
    private static final String HEAD = "Promise 3: door";
    private static final String RETURNS = "Returns how many doors there are;"
            + " one that is there already is not made again.";
    private static final String INDEX = "Throws `IndexOutOfBoundsException` if there is no such room";
    private static final String ARGUMENT = "Throws `IllegalArgumentException` if both are the same";
    private static final String STATE = "Throws `IllegalStateException` if it is a new one, and there are 20";
    private static final String JOIN = "Doors join rooms, in both directions; there are at most 20.";
    private static final String NO_ROOM = "!isRoom(a) || !isRoom(b)";

    public static void main(String[] args) {
        Sentence.testAll(all());
    }

    static List<Sentence> all() {
        return List.of(
                new Sentence(HEAD, RETURNS, "1 for the first one, 20 for the last one", P03DoorEdgesTest::numbers)
                        .brokenIn("door", "planAllWays();\n        return doors", "return doors - 1")
                        .brokenIn("door", "planAllWays();\n        return doors", "return Math.min(doors, 19)"),
                new Sentence(HEAD, RETURNS, "one that is there already, in both directions", P03DoorEdgesTest::again)
                        .brokenIn("door", "one.leadsTo(b)", "false")
                        .brokenIn("door", "one.leadsTo(b)", "one.leadsTo(b) && a < b")
                        .brokenIn("door", "one.leadsTo(b)", "one.leadsTo(b) && a > b")
                        .brokenIn("door", "{\n            return doors", "{\n            return doors + 1"),
                new Sentence(HEAD, INDEX, "no room yet", P03DoorEdgesTest::noRoomYet)
                        .brokenIn("isRoom", "return number", "return number == 0 || number"),
                new Sentence(HEAD, INDEX, "the first and the last room, but not those beside them",
                        P03DoorEdgesTest::rooms)
                        .brokenIn("door", NO_ROOM, "!isRoom(a)")
                        .brokenIn("door", NO_ROOM, "!isRoom(b)")
                        .brokenIn("isRoom", "number >= 0", "number > 0")
                        .brokenIn("isRoom", "number >= 0", "number >= -1")
                        .brokenIn("isRoom", "number < rooms.size()", "number <= rooms.size()")
                        .brokenIn("isRoom", "number < rooms.size()", "number < rooms.size() - 1"),
                new Sentence(HEAD, ARGUMENT, "a room and itself, but not the next one", P03DoorEdgesTest::bothTheSame)
                        .brokenIn("door", "a == b", "a == b && a != 0")
                        .brokenIn("door", "a == b", "a == b && a != 9")
                        .brokenIn("door", "a == b", "a >= b")
                        .brokenIn("door", "a == b", "a <= b"),
                new Sentence(HEAD, STATE, "the 20th is made, the 21st is not", P03DoorEdgesTest::places)
                        .brokenIn("door", "doors >= MOST_DOORS", "doors > MOST_DOORS")
                        .brokenIn("door", "doors >= MOST_DOORS", "doors >= MOST_DOORS - 1"),
                new Sentence(HEAD, STATE, "one that is there already is none too many", P03DoorEdgesTest::againWithAll)
                        .brokenIn("door", "one.leadsTo(b)", "doors < MOST_DOORS && one.leadsTo(b)")
                        .brokenIn("door", "one.leadsTo(b)", "(doors < MOST_DOORS || a < b) && one.leadsTo(b)"),
                new Sentence(Terms.HEAD, JOIN, "a ghost goes there and back, from each side, through all 20",
                        P03DoorEdgesTest::bothDirections)
                        .brokenIn("door", "one.openTo(b);", "")
                        .brokenIn("door", "other.openTo(a);", "")
                        .brokenIn("door", "planAllWays();", ""),
                new Sentence(Terms.HEAD, Terms.FIRST_NAMED, "door, no such room ahead of both the same",
                        P03DoorEdgesTest::noRoomAheadOfTheSame)
                        .brokenIn("door", "if (" + NO_ROOM, "if (a != b && (" + NO_ROOM + ")"),
                new Sentence(Terms.HEAD, Terms.FIRST_NAMED, "door, no such room ahead of 20 doors",
                        P03DoorEdgesTest::noRoomAheadOfAllDoors)
                        .brokenIn("door", NO_ROOM + ") {", NO_ROOM + ") {\nif (doors == MOST_DOORS) {\n"
                                + "throw new IllegalStateException(\"\");\n}"),
                new Sentence(Terms.HEAD, Terms.FIRST_NAMED, "door, both the same ahead of 20 doors",
                        P03DoorEdgesTest::theSameAheadOfAllDoors)
                        .brokenIn("door", "a == b", "a == b && doors < MOST_DOORS"),
                new Sentence(Terms.HEAD, Terms.CHANGES_NOTHING, "door", P03DoorEdgesTest::refusals)
                        .brokenAheadOf("door", "throw new IndexOutOfBoundsException",
                                "throw new IllegalArgumentException", "throw new IllegalStateException")
                        .brokenIn("door", "throw new IllegalStateException",
                                "rooms.get(a).openTo(b);\nthrow new IllegalStateException"));
    }

    private static void numbers() {
        GhostInn inn = Inns.withRooms(10);
        int doors = 0;
        for (int a = 9; a >= 0; a--) {
            for (int b = 0; b < a && doors < 20; b++) {
                doors++;
                Check.equal(name(a, b), doors, inn.door(a, b));
            }
        }
        Check.equal("count(2)", 20, inn.count(2));
    }

    private static void again() {
        GhostInn inn = Inns.withRooms(3);
        Check.equal("the first door", 1, inn.door(0, 2));
        Check.equal("once more", 1, inn.door(0, 2));
        Check.equal("once more, from its other side", 1, inn.door(2, 0));
        Check.equal("another door", 2, inn.door(2, 1));
        Check.equal("once more, from its other side", 2, inn.door(1, 2));
        Check.equal("once more", 2, inn.door(2, 1));
        Check.equal("doors of room 2", 2, inn.room(2, 3));
        Check.equal("count(2)", 2, inn.count(2));
    }

    private static void noRoomYet() {
        refusesIndex(0, 0, 0);
        refusesIndex(0, 0, 1);
        Check.equal("with two rooms", 1, Inns.withRooms(2).door(0, 1));
    }

    private static void rooms() {
        for (int rooms : new int[] {1, 2, 10}) {
            for (int none : new int[] {-1, rooms, Integer.MIN_VALUE, Integer.MAX_VALUE}) {
                refusesIndex(rooms, none, 0);
                refusesIndex(rooms, 0, none);
                refusesIndex(rooms, rooms - 1, none);
                refusesIndex(rooms, none, rooms - 1);
            }
        }
        Check.equal("the first and the last of ten", 1, Inns.withRooms(10).door(0, 9));
        Check.equal("the last and the first of ten", 1, Inns.withRooms(10).door(9, 0));
    }

    private static void refusesIndex(int rooms, int a, int b) {
        Refusal.index(() -> Inns.withRooms(rooms), name(a, b) + " of " + rooms, inn -> inn.door(a, b));
    }

    private static void bothTheSame() {
        for (int room = 0; room < 10; room++) {
            int same = room;
            Refusal.argument(() -> Inns.withRooms(10), name(room, room), inn -> inn.door(same, same));
        }
        Refusal.argument(() -> Inns.withRooms(1), "door(0, 0) of the only room", inn -> inn.door(0, 0));
        Check.equal("the next room", 1, Inns.withRooms(2).door(0, 1));
        Check.equal("the room ahead", 1, Inns.withRooms(2).door(1, 0));
    }

    private static void places() {
        GhostInn inn = Inns.withDoors(19);
        Check.equal("the 20th door", 20, inn.door(8, 9));
        Refusal.state(() -> Inns.withDoors(20), "the 21st door", full -> full.door(8, 9));
        Refusal.state(() -> Inns.withDoors(20), "the 21st door, from its other side", full -> full.door(9, 8));
        Refusal.state(Inns::full, "the 21st door of a full inn", full -> full.door(0, 5));
    }

    private static void againWithAll() {
        GhostInn inn = Inns.withDoors(20);
        Check.equal("the first door", 20, inn.door(0, 1));
        Check.equal("the first door, from its other side", 20, inn.door(1, 0));
        Check.equal("the last door", 20, inn.door(2, 5));
        Check.equal("the last door, from its other side", 20, inn.door(5, 2));
        Check.equal("doors of room 5", 3, inn.room(5, 3));
    }

    private static void bothDirections() {
        for (int a = 0; a < 10; a++) {
            for (int b = a + 1; b < 10; b++) {
                goesThereAndBack(a, b);
                goesThereAndBack(b, a);
            }
        }
        GhostInn full = Inns.withDoors(20);
        int[] there = {9, 9, 5, 3, 3, 3, 2, 2, 2, 2};
        for (int room = 0; room < 10; room++) {
            Check.equal("doors of room " + room + " with all 20", there[room], full.room(room, 3));
        }
    }

    private static void goesThereAndBack(int a, int b) {
        GhostInn inn = Inns.withRooms(10);
        inn.haunt(a, 1, 0, 3);
        inn.haunt(b, 1, 0, 3);
        inn.door(a, b);
        Check.equal("there through " + name(a, b), b, inn.at(0, 1));
        Check.equal("and back", a, inn.at(0, 2));
        Check.equal("there from the other side of " + name(a, b), a, inn.at(1, 1));
        Check.equal("and back", b, inn.at(1, 2));
    }

    private static void noRoomAheadOfTheSame() {
        for (int none : new int[] {-1, 2, Integer.MIN_VALUE, Integer.MAX_VALUE}) {
            refusesIndex(2, none, none);
        }
    }

    private static void noRoomAheadOfAllDoors() {
        for (int none : new int[] {-1, 10}) {
            Refusal.index(() -> Inns.withDoors(20), name(none, 8), full -> full.door(none, 8));
            Refusal.index(() -> Inns.withDoors(20), name(8, none), full -> full.door(8, none));
            Refusal.index(() -> Inns.withDoors(20), name(none, none), full -> full.door(none, none));
        }
    }

    private static void theSameAheadOfAllDoors() {
        Refusal.argument(() -> Inns.withDoors(20), "door(0, 0)", full -> full.door(0, 0));
        Refusal.argument(() -> Inns.withDoors(20), "door(9, 9)", full -> full.door(9, 9));
    }

    private static void refusals() {
        refusesIndex(2, 0, 2);
        Refusal.argument(Inns::some, "door(1, 1)", inn -> inn.door(1, 1));
        Refusal.state(Inns::full, "the 21st door", full -> full.door(0, 5));
        GhostInn inn = Inns.withDoors(20);
        Check.throwsItself(IllegalStateException.class, "the 21st door", () -> inn.door(8, 9));
        Check.throwsItself(IllegalStateException.class, "the 21st door, once more", () -> inn.door(8, 9));
        inn.haunt(8, 1, 0, 12);
        Check.equal("a ghost who does not find the door that was refused", 0, inn.at(0, 1));
    }

    private static String name(int a, int b) {
        return "door(" + a + ", " + b + ")";
    }
}
