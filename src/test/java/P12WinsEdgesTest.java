import java.util.List;

/** Promise 12: the edges that its sentences name, and those of who wins a room, and what is paid. */
final class P12WinsEdgesTest {
    private static final String HEAD = "Promise 12: wins";
    private static final String WHAT = "0 the guest who would win it by the bids now, -1 if nobody,"
            + " 1 what this one would pay, 0 if nobody, 2 bids for it that count";
    private static final String INDEX = "Throws `IndexOutOfBoundsException` if there is no such room,"
            + " or what is not 0 to 2";
    private static final String GREATEST = "Room by room: of the bids for it that count the greatest price wins,"
            + " of several the guest with the smaller number.";
    private static final String PAYS = "The winner pays the second greatest price of those bids that count (of others),"
            + " but at least the least price (so the least price alone, if nobody else bids).";

    public static void main(String[] args) {
        Sentence.testAll(all());
    }

    static List<Sentence> all() {
        return List.of(
                new Sentence(HEAD, WHAT, "nobody yet: -1, 0 and 0, whatever the least price", P12WinsEdgesTest::nobody)
                        .brokenIn("winnerOf", "int winner = NONE", "int winner = 0")
                        .brokenIn("dueFor", "winner == NONE", "winner < NONE")
                        .brokenIn("bidsThatCount", "int bids = 0", "int bids = 1"),
                new Sentence(HEAD, WHAT, "guest 0 is somebody, and so is the last of twelve",
                        P12WinsEdgesTest::firstAndLastGuest)
                        .brokenIn("winnerOf", "int number = 0", "int number = 1")
                        .brokenIn("winnerOf", "number < guests.size()", "number < guests.size() - 1")
                        .brokenIn("dueFor", "int number = 0", "int number = 1")
                        .brokenIn("dueFor", "number < guests.size()", "number < guests.size() - 1")
                        .brokenIn("bidsThatCount", "int guest = 0", "int guest = 1")
                        .brokenIn("bidsThatCount", "guest < guests.size()", "guest < guests.size() - 1"),
                new Sentence(HEAD, WHAT, "by the bids now: of this room alone", P12WinsEdgesTest::ofThisRoom)
                        .brokenIn("countsFor", "guest.bidRoom == room", "guest.hasBid()")
                        .brokenIn("countsFor", "guest.bidRoom == room", "guest.bidRoom <= room && guest.hasBid()"),
                new Sentence(HEAD, INDEX, "no room yet", P12WinsEdgesTest::noRoomYet)
                        .brokenIn("wins", "!isRoom(room)", "room != 0 && !isRoom(room)"),
                new Sentence(HEAD, INDEX, "the first and the last room, but not those beside them",
                        P12WinsEdgesTest::rooms)
                        .brokenIn("wins", "!isRoom(room)", "room < 0")
                        .brokenIn("wins", "!isRoom(room)", "room >= rooms.size()")
                        .brokenIn("wins", "!isRoom(room)", "!isRoom(room) || room == 0")
                        .brokenIn("wins", "!isRoom(room)", "!isRoom(room) || room == 9"),
                new Sentence(HEAD, INDEX, "0 and 2, but not -1 and 3", P12WinsEdgesTest::whats)
                        .brokenIn("wins", "case 0:", "case -1:\ncase 0:")
                        .brokenIn("wins", "case 2:", "case 3:\ncase 2:")
                        .brokenIn("wins", "default:\n", "default:\nif (what < 0) {\nreturn 0;\n}\n")
                        .brokenIn("wins", "default:\n", "default:\nif (what > 3) {\nreturn 0;\n}\n"),
                new Sentence(Terms.HEAD, Terms.CHANGES_NOTHING, "wins", P12WinsEdgesTest::refusals)
                        .brokenAheadOf("wins", "throw new IndexOutOfBoundsException(\"no such room",
                                "throw new IndexOutOfBoundsException(\"an auction"),
                new Sentence(Terms.HEAD, GREATEST, "one more is greater, whoever bids it", P12WinsEdgesTest::oneMore)
                        .brokenIn("winnerOf", "guest.bidPrice > greatest", "guest.bidPrice > greatest + 1")
                        .brokenIn("winnerOf", "guest.bidPrice > greatest", "greatest == 0"),
                new Sentence(Terms.HEAD, GREATEST, "of several the smaller number", P12WinsEdgesTest::ofSeveral)
                        .brokenIn("winnerOf", "guest.bidPrice > greatest", "guest.bidPrice >= greatest"),
                new Sentence(Terms.HEAD, GREATEST, "a greater one that does not count", P12WinsEdgesTest::thatCount)
                        .brokenIn("couldBidFor", "coins >= bidPrice && ", "")
                        .brokenIn("couldBidFor", "room.beds >= beds && ", "")
                        .brokenIn("couldBidFor", " && bidPrice >= room.least", ""),
                new Sentence(Terms.HEAD, PAYS, "nobody else: the least price alone", P12WinsEdgesTest::leastAlone)
                        .brokenIn("dueFor", "number != winner && ", "")
                        .brokenIn("dueFor", "int due = rooms.get(room).least", "int due = 0")
                        .brokenIn("dueFor", "return due", "return Math.max(due, 1)"),
                new Sentence(Terms.HEAD, PAYS, "a second one that is as great as the first",
                        P12WinsEdgesTest::secondAsGreat)
                        .brokenIn("dueFor", "number != winner",
                                "guest.bidPrice < guests.get(winner).bidPrice && number != winner"),
                new Sentence(Terms.HEAD, PAYS, "a second one that is the least price, and one more",
                        P12WinsEdgesTest::secondAtLeast)
                        .brokenIn("dueFor", "Math.max(due, guest.bidPrice)", "Math.max(due, guest.bidPrice - 1)")
                        .brokenIn("dueFor", "Math.max(due, guest.bidPrice)", "due"),
                new Sentence(Terms.HEAD, PAYS, "no second one that does not count", P12WinsEdgesTest::secondThatCounts)
                        .brokenIn("dueFor", "countsFor(guest, room)", "guest.bidRoom == room"),
                new Sentence(Terms.HEAD, PAYS, "the second of twelve, not the third", P12WinsEdgesTest::secondOfTwelve)
                        .brokenIn("dueFor", "due = Math.max(due, guest.bidPrice)", "due = guest.bidPrice"));
    }

    private static void nobody() {
        GhostInn inn = new GhostInn();
        inn.furnish(1, 5, 0);
        inn.furnish(1, 5, 100);
        tells(inn, "without guests", 0, -1, 0, 0);
        tells(inn, "without guests", 1, -1, 0, 0);
        inn.come(99, 1, 0);
        tells(inn, "without bids", 0, -1, 0, 0);
        tells(inn, "without bids", 1, -1, 0, 0);
        inn.bid(0, 1, 99);
        tells(inn, "with a bid that does not count", 1, -1, 0, 0);
        inn.bid(0, 0, 99);
        tells(inn, "with a bid", 0, 0, 0, 1);
        inn.leave(0);
        tells(inn, "with a bid that has left", 0, -1, 0, 0);
        inn.bid(0, 0, 99);
        inn.night();
        tells(inn, "behind the night", 0, -1, 0, 0);
    }

    private static void firstAndLastGuest() {
        GhostInn inn = Inns.withGuests(12);
        inn.bid(0, 0, 20);
        tells(inn, "the first guest", 0, 0, 0, 1);
        inn.bid(11, 0, 30);
        tells(inn, "the last guest, and the first one's price", 0, 11, 20, 2);
        inn.bid(0, 0, 40);
        tells(inn, "the first guest, and the last one's price", 0, 0, 30, 2);
    }

    private static void ofThisRoom() {
        GhostInn inn = Inns.withGuests(3);
        inn.bid(0, 0, 60);
        inn.bid(1, 1, 50);
        inn.bid(2, 0, 40);
        tells(inn, "room 0", 0, 0, 40, 2);
        tells(inn, "room 1", 1, 1, 0, 1);
        inn.furnish(1, 5, 0);
        tells(inn, "room 2", 2, -1, 0, 0);
    }

    private static void noRoomYet() {
        refuses(0, 0, 0);
        refuses(0, 0, 2);
    }

    private static void rooms() {
        for (int rooms : new int[] {1, 2, 10}) {
            for (int none : new int[] {-1, rooms, Integer.MIN_VALUE, Integer.MAX_VALUE}) {
                refuses(rooms, none, 0);
                refuses(rooms, none, 2);
            }
        }
        GhostInn inn = Inns.withRooms(10);
        inn.come(100, 1, 0);
        inn.bid(0, 0, 5);
        tells(inn, "the first room", 0, 0, 0, 1);
        inn.bid(0, 9, 5);
        tells(inn, "the last room", 9, 0, 0, 1);
    }

    private static void whats() {
        for (int what : new int[] {-1, 3, 4, Integer.MIN_VALUE, Integer.MAX_VALUE}) {
            refuses(1, 0, what);
        }
        GhostInn inn = Inns.haunted(7, 0, 0);
        inn.bid(0, 0, 50);
        tells(inn, "one bid", 0, 0, 7, 1);
    }

    private static void refuses(int rooms, int room, int what) {
        Refusal.index(() -> Inns.withRooms(rooms), "wins(" + room + ", " + what + ") of " + rooms,
                inn -> inn.wins(room, what));
    }

    private static void refusals() {
        refuses(1, 1, 0);
        refuses(1, 0, 3);
        Refusal.index(Inns::full, "wins(10, -1)", inn -> inn.wins(10, -1));
    }

    private static void oneMore() {
        for (int winner = 0; winner < 3; winner++) {
            GhostInn inn = Inns.withGuests(3);
            for (int guest = 0; guest < 3; guest++) {
                inn.bid(guest, 0, guest == winner ? 51 : 50);
            }
            tells(inn, "51 and twice 50", 0, winner, 50, 3);
        }
        GhostInn inn = Inns.withGuests(2);
        inn.bid(0, 0, 1);
        inn.bid(1, 0, 2);
        tells(inn, "1 and 2", 0, 1, 1, 2);
    }

    private static void ofSeveral() {
        GhostInn inn = Inns.withGuests(12);
        for (int guest = 11; guest >= 0; guest--) {
            inn.bid(guest, 0, 50);
            tells(inn, "the same price from " + guest + " on", 0, guest, guest == 11 ? 0 : 50, 12 - guest);
        }
        inn.leave(0);
        tells(inn, "without guest 0", 0, 1, 50, 11);
    }

    private static void thatCount() {
        GhostInn inn = new GhostInn();
        inn.furnish(2, 5, 20);
        inn.come(100, 2, 0);
        inn.come(100, 2, 0);
        inn.come(100, 3, 0);
        inn.bid(0, 0, 60);
        inn.bid(1, 0, 101);
        tells(inn, "one less than its coins", 0, 0, 20, 1);
        inn.bid(1, 0, 100);
        tells(inn, "just its coins", 0, 1, 60, 2);
        inn.leave(1);
        inn.bid(2, 0, 100);
        tells(inn, "one bed too few", 0, 0, 20, 1);
        inn.leave(0);
        inn.bid(1, 0, 19);
        tells(inn, "one less than the least price", 0, -1, 0, 0);
        inn.bid(1, 0, 20);
        tells(inn, "just the least price", 0, 1, 20, 1);
    }

    private static void leastAlone() {
        for (int least : new int[] {0, 1, 100}) {
            GhostInn inn = new GhostInn();
            inn.furnish(1, 5, least);
            inn.come(1000, 1, 0);
            inn.bid(0, 0, 200);
            tells(inn, "200 for " + least, 0, 0, least, 1);
            inn.bid(0, 0, Math.max(least, 1));
            tells(inn, "the smallest bid for " + least, 0, 0, least, 1);
        }
    }

    private static void secondAsGreat() {
        GhostInn inn = Inns.withGuests(2);
        inn.bid(0, 0, 50);
        inn.bid(1, 0, 50);
        tells(inn, "twice 50", 0, 0, 50, 2);
        inn.bid(0, 0, 1);
        inn.bid(1, 0, 1);
        tells(inn, "twice 1", 0, 0, 1, 2);
    }

    private static void secondAtLeast() {
        GhostInn inn = Inns.haunted(20, 0, 0);
        inn.come(100, 1, 0);
        inn.bid(0, 0, 50);
        inn.bid(1, 0, 20);
        tells(inn, "just the least price", 0, 0, 20, 2);
        inn.bid(1, 0, 21);
        tells(inn, "one more", 0, 0, 21, 2);
        inn.bid(1, 0, 49);
        tells(inn, "one less than the first", 0, 0, 49, 2);
    }

    private static void secondThatCounts() {
        GhostInn inn = Inns.haunted(20, 0, 0);
        inn.come(30, 1, 0);
        inn.come(100, 2, 0);
        inn.bid(0, 0, 50);
        inn.bid(1, 0, 31);
        inn.bid(2, 0, 90);
        tells(inn, "one without the coins, one without the beds", 0, 0, 20, 1);
        inn.bid(1, 0, 30);
        tells(inn, "just the coins", 0, 0, 30, 2);
    }

    private static void secondOfTwelve() {
        GhostInn inn = Inns.withGuests(12);
        for (int guest = 0; guest < 12; guest++) {
            inn.bid(guest, 0, 10 + 7 * guest % 12);
        }
        tells(inn, "twelve prices, 10 to 21", 0, 5, 20, 12);
        inn.leave(5);
        tells(inn, "without the greatest", 0, 10, 19, 11);
    }

    private static void tells(GhostInn inn, String when, int room, int... due) {
        for (int what = 0; what < 3; what++) {
            Check.equal(when + ", wins(" + room + ", " + what + ")", due[what], inn.wins(room, what));
        }
    }
}
