import java.util.List;

/** Promise 9: the edges that its sentences name, and those of when a bid counts. */
final class P09BidEdgesTest {
    private static final String HEAD = "Promise 9: bid";
    private static final String WRITES = "Writes a bid for this night, in the place of one that is there.";
    private static final String RETURNS = "Returns whether it counts now.";
    private static final String INDEX = "Throws `IndexOutOfBoundsException` if there is no such guest or room";
    private static final String ARGUMENT = "Throws `IllegalArgumentException` if price is not 1 to 200";
    private static final String ONE_BID = "For the night a guest can have one bid: a room, and a price, 1 to 200.";
    private static final String COUNTS = "It counts, if the guest has as many coins as it tells,"
            + " the room has as many beds as needed, and the price is at least its least price.";

    public static void main(String[] args) {
        Sentence.testAll(all());
    }

    static List<Sentence> all() {
        return List.of(
                new Sentence(HEAD, WRITES, "in the place of one for the same room, and for another one",
                        P09BidEdgesTest::inItsPlace)
                        .brokenIn("writeBid", "bidRoom = room", "bidRoom = bidRoom == NONE ? room : bidRoom")
                        .brokenIn("writeBid", "bidPrice = price", "bidPrice = Math.max(price, bidPrice)")
                        .brokenIn("writeBid", "bidPrice = price", "bidPrice = bidPrice == 0 ? price : bidPrice"),
                new Sentence(HEAD, WRITES, "one that does not count, in the place of one that does",
                        P09BidEdgesTest::thatDoesNotCount)
                        .brokenIn("bid", "bidder.writeBid(room, price);",
                                "if (price <= bidder.coins) {\nbidder.writeBid(room, price);\n}"),
                new Sentence(HEAD, WRITES, "for this night, not for the next one", P09BidEdgesTest::forThisNight)
                        .brokenIn("night", "guests.get(guest).dropBid();", "")
                        .brokenIn("dropBid", "bidPrice = 0;", ""),
                new Sentence(HEAD, RETURNS, "now, not with the coins of the night before", P09BidEdgesTest::countsNow)
                        .brokenIn("stayed", "coins -= spent;", "")
                        .brokenIn("bid", "return bidder.couldBidFor(rooms.get(room))", "return true"),
                new Sentence(HEAD, INDEX, "no guest yet, no room yet", P09BidEdgesTest::nobodyYet)
                        .brokenIn("bid", "!isGuest(guest)", "guest != 0 && !isGuest(guest)")
                        .brokenIn("bid", "!isRoom(room)", "room != 0 && !isRoom(room)"),
                new Sentence(HEAD, INDEX, "the first and the last guest, but not those beside them",
                        P09BidEdgesTest::guests)
                        .brokenIn("isGuest", "number >= 0", "number > 0")
                        .brokenIn("isGuest", "number >= 0", "number >= -1")
                        .brokenIn("isGuest", "number < guests.size()", "number <= guests.size()")
                        .brokenIn("isGuest", "number < guests.size()", "number < guests.size() - 1"),
                new Sentence(HEAD, INDEX, "the first and the last room, but not those beside them",
                        P09BidEdgesTest::rooms)
                        .brokenIn("bid", "!isRoom(room)", "room < 0")
                        .brokenIn("bid", "!isRoom(room)", "room >= rooms.size()")
                        .brokenIn("bid", "!isRoom(room)", "!isRoom(room) || room == 0")
                        .brokenIn("bid", "!isRoom(room)", "!isRoom(room) || room == 9"),
                new Sentence(HEAD, ARGUMENT, "price 1 and 200, but not 0 and 201", P09BidEdgesTest::prices)
                        .brokenBounds("bid", "price", 1, 200),
                new Sentence(Terms.HEAD, Terms.FIRST_NAMED, "bid, no such guest or room ahead of a wrong price",
                        P09BidEdgesTest::nobodyAheadOfPrice)
                        .brokenIn("bid", "!isGuest(guest)", "within(price, 1, 200) && !isGuest(guest)")
                        .brokenIn("bid", "!isRoom(room)", "within(price, 1, 200) && !isRoom(room)"),
                new Sentence(Terms.HEAD, Terms.CHANGES_NOTHING, "bid", P09BidEdgesTest::refusals)
                        .brokenAheadOf("bid", "throw new IndexOutOfBoundsException(\"no such guest",
                                "throw new IndexOutOfBoundsException(\"no such room",
                                "throw new IllegalArgumentException")
                        .brokenIn("bid", "throw new IllegalArgumentException",
                                "guests.get(guest).dropBid();\nthrow new IllegalArgumentException")
                        .brokenIn("bid", "throw new IllegalArgumentException",
                                "guests.get(guest).bidRoom = room;\nthrow new IllegalArgumentException"),
                new Sentence(Terms.HEAD, ONE_BID, "one bid of each of twelve guests", P09BidEdgesTest::oneBidEach)
                        .brokenIn("bidsWritten", "bids++", "bids = Math.min(bids + 1, 11)")
                        .brokenIn("bidsThatCount", "bids++", "bids = Math.min(bids + 1, 11)")
                        .brokenIn("writeBid", "bidRoom = room", "bidRoom = Math.max(bidRoom, room)"),
                new Sentence(Terms.HEAD, COUNTS, "just as many coins, but not one less", P09BidEdgesTest::coins)
                        .brokenIn("couldBidFor", "coins >= bidPrice", "coins > bidPrice")
                        .brokenIn("couldBidFor", "coins >= bidPrice", "coins >= bidPrice - 1"),
                new Sentence(Terms.HEAD, COUNTS, "just as many beds, but not one less", P09BidEdgesTest::beds)
                        .brokenIn("couldBidFor", "room.beds >= beds", "room.beds > beds")
                        .brokenIn("couldBidFor", "room.beds >= beds", "room.beds >= beds - 1")
                        .brokenIn("couldBidFor", "room.beds >= beds", "room.beds == beds"),
                new Sentence(Terms.HEAD, COUNTS, "just the least price, but not one less", P09BidEdgesTest::least)
                        .brokenIn("couldBidFor", "bidPrice >= room.least", "bidPrice > room.least")
                        .brokenIn("couldBidFor", "bidPrice >= room.least", "bidPrice >= room.least - 1"));
    }

    private static void inItsPlace() {
        GhostInn inn = Inns.withGuests(1);
        inn.bid(0, 0, 50);
        inn.bid(0, 0, 30);
        hasBid(inn, 0, 30);
        inn.bid(0, 0, 40);
        hasBid(inn, 0, 40);
        inn.bid(0, 1, 20);
        hasBid(inn, 1, 20);
        Check.equal("bids for room 0", 0, inn.wins(0, 2));
        Check.equal("bids for room 1", 1, inn.wins(1, 2));
        inn.bid(0, 0, 60);
        hasBid(inn, 0, 60);
        Check.equal("bids for room 0", 1, inn.wins(0, 2));
        Check.equal("bids for room 1", 0, inn.wins(1, 2));
    }

    private static void hasBid(GhostInn inn, int room, int price) {
        Check.equal("the room of the bid", room, inn.guest(0, 3));
        Check.equal("its price", price, inn.guest(0, 4));
        Check.equal("count(6)", 1, inn.count(6));
    }

    private static void thatDoesNotCount() {
        GhostInn inn = Inns.withGuests(1);
        Check.equal("one that counts", true, inn.bid(0, 0, 100));
        Check.equal("one that does not", false, inn.bid(0, 0, 101));
        hasBid(inn, 0, 101);
        Check.equal("bids that count", 0, inn.wins(0, 2));
        Check.equal("the winner", -1, inn.wins(0, 0));
    }

    private static void forThisNight() {
        GhostInn inn = Inns.withGuests(2);
        inn.bid(0, 0, 50);
        inn.bid(1, 1, 101);
        inn.night();
        for (int guest = 0; guest < 2; guest++) {
            Check.equal("the room of the bid", -1, inn.guest(guest, 3));
            Check.equal("its price", 0, inn.guest(guest, 4));
        }
        inn.night();
        Check.equal("nights in a room", 1, inn.guest(0, 5));
    }

    private static void countsNow() {
        GhostInn inn = Inns.haunted(60, 0, 0);
        Check.equal("with 100 coins", true, inn.bid(0, 0, 100));
        inn.night();
        Check.equal("with 40 coins", false, inn.bid(0, 0, 60));
    }

    private static void nobodyYet() {
        Refusal.index(GhostInn::new, "bid(0, 0, 1) without both", inn -> inn.bid(0, 0, 1));
        Refusal.index(() -> Inns.withRooms(1), "bid(0, 0, 1) without guests", inn -> inn.bid(0, 0, 1));
        Refusal.index(() -> guestWithoutRooms(), "bid(0, 0, 1) without rooms", inn -> inn.bid(0, 0, 1));
    }

    private static GhostInn guestWithoutRooms() {
        GhostInn inn = new GhostInn();
        inn.come(100, 1, 0);
        return inn;
    }

    private static void guests() {
        for (int guests : new int[] {1, 2, 12}) {
            for (int none : new int[] {-1, guests, Integer.MIN_VALUE, Integer.MAX_VALUE}) {
                Refusal.index(() -> Inns.withGuests(guests), name(none, 0, 1) + " of " + guests + " guests",
                        inn -> inn.bid(none, 0, 1));
            }
        }
        GhostInn inn = Inns.withGuests(12);
        inn.bid(0, 0, 5);
        inn.bid(11, 0, 7);
        Check.equal("the first guest's bid", 5, inn.guest(0, 4));
        Check.equal("the last guest's bid", 7, inn.guest(11, 4));
    }

    private static void rooms() {
        for (int rooms : new int[] {1, 2, 10}) {
            for (int none : new int[] {-1, rooms, Integer.MIN_VALUE, Integer.MAX_VALUE}) {
                Refusal.index(() -> guestAndRooms(rooms), name(0, none, 1) + " of " + rooms + " rooms",
                        inn -> inn.bid(0, none, 1));
            }
        }
        GhostInn inn = guestAndRooms(10);
        inn.bid(0, 0, 5);
        Check.equal("the first room", 0, inn.guest(0, 3));
        inn.bid(0, 9, 5);
        Check.equal("the last room", 9, inn.guest(0, 3));
    }

    private static GhostInn guestAndRooms(int rooms) {
        GhostInn inn = Inns.withRooms(rooms);
        inn.come(100, 1, 0);
        return inn;
    }

    private static void prices() {
        for (int price : new int[] {0, 201, -1, Integer.MIN_VALUE, Integer.MAX_VALUE}) {
            Refusal.argument(() -> Inns.withGuests(1), name(0, 0, price), inn -> inn.bid(0, 0, price));
            Refusal.argument(Inns::some, name(0, 0, price) + ", with a bid", inn -> inn.bid(0, 0, price));
        }
        GhostInn inn = Inns.withRooms(1);
        inn.come(1000, 1, 0);
        Check.equal("price 1", true, inn.bid(0, 0, 1));
        Check.equal("price 1, written", 1, inn.guest(0, 4));
        Check.equal("price 200", true, inn.bid(0, 0, 200));
        Check.equal("price 200, written", 200, inn.guest(0, 4));
    }

    private static void nobodyAheadOfPrice() {
        for (int price : new int[] {0, 201, Integer.MIN_VALUE, Integer.MAX_VALUE}) {
            for (int none : new int[] {-1, 2}) {
                Refusal.index(() -> Inns.withGuests(2), name(none, 0, price), inn -> inn.bid(none, 0, price));
                Refusal.index(() -> Inns.withGuests(2), name(0, none, price), inn -> inn.bid(0, none, price));
                Refusal.index(() -> Inns.withGuests(2), name(none, none, price), inn -> inn.bid(none, none, price));
            }
            Refusal.index(GhostInn::new, name(0, 0, price) + " without both", inn -> inn.bid(0, 0, price));
        }
    }

    private static void refusals() {
        Refusal.index(Inns::full, "bid(12, 0, 50)", inn -> inn.bid(12, 0, 50));
        Refusal.index(Inns::full, "bid(0, 10, 50)", inn -> inn.bid(0, 10, 50));
        Refusal.argument(Inns::some, "bid(0, 1, 201)", inn -> inn.bid(0, 1, 201));
    }

    private static void oneBidEach() {
        GhostInn inn = Inns.withGuests(12);
        for (int guest = 0; guest < 12; guest++) {
            Check.equal("the bid of guest " + guest, true, inn.bid(guest, 1, 1 + guest));
            Check.equal("once more, for the other room", true, inn.bid(guest, 0, 2 + guest));
            Check.equal("count(6)", guest + 1, inn.count(6));
            Check.equal("bids for room 0", guest + 1, inn.wins(0, 2));
            Check.equal("bids for room 1", 0, inn.wins(1, 2));
        }
    }

    private static void coins() {
        GhostInn inn = Inns.withRooms(1);
        inn.come(50, 1, 0);
        inn.come(0, 1, 0);
        inn.come(1, 1, 0);
        inn.come(200, 1, 0);
        inn.come(199, 1, 0);
        counts(inn, 0, 49, true);
        counts(inn, 0, 50, true);
        counts(inn, 0, 51, false);
        counts(inn, 1, 1, false);
        counts(inn, 2, 1, true);
        counts(inn, 3, 200, true);
        counts(inn, 4, 200, false);
    }

    private static void counts(GhostInn inn, int guest, int price, boolean due) {
        Check.equal(name(guest, 0, price), due, inn.bid(guest, 0, price));
        Check.equal(name(guest, 0, price) + ", bids that count", due ? 1 : 0, inn.wins(0, 2));
        inn.leave(guest);
    }

    private static void beds() {
        for (int beds = 1; beds <= 6; beds++) {
            for (int needed = 1; needed <= 6; needed++) {
                GhostInn inn = new GhostInn();
                inn.furnish(beds, 0, 0);
                inn.come(100, needed, 0);
                Check.equal(needed + " needed of " + beds, needed <= beds, inn.bid(0, 0, 10));
                Check.equal(needed + " needed of " + beds + ", the winner", needed <= beds ? 0 : -1, inn.wins(0, 0));
            }
        }
    }

    private static void least() {
        for (int least : new int[] {0, 1, 2, 50, 99, 100}) {
            GhostInn inn = Inns.haunted(least, 0, 0);
            if (least > 1) {
                counts(inn, 0, least - 1, false);
            }
            counts(inn, 0, Math.max(least, 1), true);
            counts(inn, 0, 100, true);
        }
    }

    private static String name(int guest, int room, int price) {
        return "bid(" + guest + ", " + room + ", " + price + ")";
    }
}
