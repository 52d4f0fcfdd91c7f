import java.util.List;

/** Promise 7: the edges that its sentences name. */
final class P07RoomEdgesTest {
    private static final String HEAD = "Promise 7: room";
    private static final String WHAT = "0 its beds, 1 its comfort, 2 its least price, 3 doors there,"
            + " 4 nights for which it was let in all, 5 what was paid for it in all, less what was given back";
    private static final String INDEX = "Throws `IndexOutOfBoundsException` if there is no such room,"
            + " or what is not 0 to 5";

    public static void main(String[] args) {
        Sentence.testAll(all());
    }

    static List<Sentence> all() {
        return List.of(
                new Sentence(HEAD, WHAT, "a new room: no door, no night, nothing paid", P07RoomEdgesTest::newRoom)
                        .brokenIn("room", "asked.beds", "asked.least")
                        .brokenIn("room", "asked.comfort", "asked.beds")
                        .brokenIn("room", "asked.least", "asked.comfort")
                        .brokenIn("room", "asked.doorsThere()", "asked.doorsThere() + 1")
                        .brokenIn("room", "asked.nightsLet", "nightsGone + 1")
                        .brokenIn("room", "asked.earned", "asked.least"),
                new Sentence(HEAD, WHAT, "doors there: nine at most, and not those of other rooms",
                        P07RoomEdgesTest::doorsThere)
                        .brokenIn("room", "asked.doorsThere()", "Math.min(asked.doorsThere(), 8)")
                        .brokenIn("room", "asked.doorsThere()", "doors")
                        .brokenIn("door", "other.openTo(a);", ""),
                new Sentence(HEAD, WHAT, "nights: one more with each letting, none more without",
                        P07RoomEdgesTest::nights)
                        .brokenIn("wasLet", "nightsLet++", "nightsLet = 1")
                        .brokenIn("room", "asked.nightsLet", "nightsGone")
                        .brokenIn("wasLet", "nightsLet++", "nightsLet += earning > 0 ? 1 : 0"),
                new Sentence(HEAD, WHAT, "paid: less what was given back, of 0, 1, 2 and 3",
                        P07RoomEdgesTest::paid)
                        .brokenIn("letRoom", "paid / 2", "(paid + 1) / 2")
                        .brokenIn("letRoom", "room.wasLet(paid - back", "room.wasLet(paid")
                        .brokenIn("wasLet", "earned += earning", "earned = earning")
                        .brokenIn("room", "asked.earned", "coins"),
                new Sentence(HEAD, INDEX, "no room yet", P07RoomEdgesTest::noRoomYet)
                        .brokenIn("room", "!isRoom(room)", "room != 0 && !isRoom(room)"),
                new Sentence(HEAD, INDEX, "the first and the last room, but not those beside them",
                        P07RoomEdgesTest::rooms)
                        .brokenIn("room", "!isRoom(room)", "room < 0")
                        .brokenIn("room", "!isRoom(room)", "room >= rooms.size()")
                        .brokenIn("room", "!isRoom(room)", "!isRoom(room) || room == 9")
                        .brokenIn("room", "rooms.get(room)", "rooms.get(0)"),
                new Sentence(HEAD, INDEX, "0 and 5, but not -1 and 6", P07RoomEdgesTest::whats)
                        .brokenIn("room", "case 0:", "case -1:\ncase 0:")
                        .brokenIn("room", "case 5:", "case 6:\ncase 5:")
                        .brokenIn("room", "default:\n", "default:\nif (what < 0) {\nreturn 0;\n}\n")
                        .brokenIn("room", "default:\n", "default:\nif (what > 6) {\nreturn 0;\n}\n"),
                new Sentence(Terms.HEAD, Terms.CHANGES_NOTHING, "room", P07RoomEdgesTest::refusals)
                        .brokenAheadOf("room", "throw new IndexOutOfBoundsException(\"no such room",
                                "throw new IndexOutOfBoundsException(\"a room"));
    }

    private static void newRoom() {
        GhostInn inn = new GhostInn();
        inn.night();
        inn.furnish(2, 5, 20);
        tells(inn, 0, 2, 5, 20, 0, 0, 0);
        inn.furnish(1, 0, 0);
        tells(inn, 1, 1, 0, 0, 0, 0, 0);
        inn.furnish(6, 9, 100);
        tells(inn, 2, 6, 9, 100, 0, 0, 0);
    }

    private static void doorsThere() {
        GhostInn inn = Inns.withRooms(10);
        for (int other = 0; other < 9; other++) {
            inn.door(9, other);
            Check.equal("doors of room 9", other + 1, inn.room(9, 3));
            Check.equal("doors of room " + other, 1, inn.room(other, 3));
            Check.equal("doors of room " + (other + 1), other == 8 ? 9 : 0, inn.room(other + 1, 3));
        }
        inn.door(0, 9);
        Check.equal("one that is there already", 9, inn.room(9, 3));
        Check.equal("one that is there already", 1, inn.room(0, 3));
    }

    private static void nights() {
        GhostInn inn = Inns.withGuests(2);
        inn.night();
        Check.equal("a night without bids", 0, inn.room(0, 4));
        inn.bid(0, 0, 1);
        inn.bid(1, 0, 101);
        inn.night();
        Check.equal("let, if for nothing", 1, inn.room(0, 4));
        inn.bid(1, 0, 101);
        inn.night();
        Check.equal("a bid that does not count", 1, inn.room(0, 4));
        inn.bid(0, 1, 1);
        inn.night();
        Check.equal("another room is let", 1, inn.room(0, 4));
        inn.bid(1, 0, 1);
        inn.night();
        Check.equal("let once more", 2, inn.room(0, 4));
    }

    private static void paid() {
        int[] due = {0, 1, 1, 2};
        for (int price = 0; price <= 3; price++) {
            GhostInn inn = Inns.haunted(price, 9, 0);
            inn.furnish(1, 5, 10);
            inn.come(100, 1, 90);
            inn.bid(0, 0, 50);
            inn.bid(1, 1, 50);
            inn.night();
            Check.equal("frightened, paid " + price, due[price], inn.room(0, 5));
            inn.bid(1, 0, 50);
            inn.night();
            Check.equal("not frightened, paid " + price, due[price] + price, inn.room(0, 5));
            inn.night();
            Check.equal("not let", due[price] + price, inn.room(0, 5));
        }
    }

    private static void noRoomYet() {
        refuses(0, 0, 0);
        refuses(0, 0, 5);
    }

    private static void rooms() {
        for (int rooms : new int[] {1, 2, 10}) {
            for (int none : new int[] {-1, rooms, Integer.MIN_VALUE, Integer.MAX_VALUE}) {
                refuses(rooms, none, 0);
                refuses(rooms, none, 5);
            }
        }
        GhostInn inn = new GhostInn();
        for (int room = 0; room < 10; room++) {
            inn.furnish(1, 5, 10 * room);
        }
        Check.equal("the first room", 0, inn.room(0, 2));
        Check.equal("the last room", 90, inn.room(9, 2));
    }

    private static void whats() {
        for (int what : new int[] {-1, 6, 7, Integer.MIN_VALUE, Integer.MAX_VALUE}) {
            refuses(1, 0, what);
        }
        GhostInn inn = new GhostInn();
        inn.furnish(2, 5, 20);
        Check.equal("room(0, 0)", 2, inn.room(0, 0));
        Check.equal("room(0, 5)", 0, inn.room(0, 5));
    }

    private static void refuses(int rooms, int room, int what) {
        Refusal.index(() -> Inns.withRooms(rooms), "room(" + room + ", " + what + ") of " + rooms,
                inn -> inn.room(room, what));
    }

    private static void refusals() {
        refuses(1, 1, 0);
        refuses(1, 0, 6);
        Refusal.index(Inns::full, "room(10, -1)", inn -> inn.room(10, -1));
    }

    private static void tells(GhostInn inn, int room, int... due) {
        for (int what = 0; what < 6; what++) {
            Check.equal("room(" + room + ", " + what + ")", due[what], inn.room(room, what));
        }
    }
}
