import java.util.List;

/** Promise 16: the edges that its sentences name. */
final class P16MostEdgesTest {
    private static final String HEAD = "Promise 16: most";
    private static final String TELLS = "Tells the most that the inn could take in, if it chose by itself which guest"
            + " with a bid gets which room: each guest at most one room, each room at most one guest.";
    private static final String PAYS = "A guest pays the price of the own bid, for whichever room; but only such a room"
            + " can be given for which the bid would count, if it was for this room.";
    private static final String RETURNS = "Returns this, of all ways to give rooms to guests who have a bid"
            + " (whatever frightens them; nothing is changed).";
    private static final String ALLOWED = "guest.hasBid() && guest.couldBidFor(rooms.get(room))";

    public static void main(String[] args) {
        Sentence.testAll(all());
    }

    static List<Sentence> all() {
        return List.of(
                new Sentence(HEAD, TELLS, "0 without rooms, without guests, without bids",
                        P16MostEdgesTest::nothingThere)
                        .brokenIn("most", "int taken = 0", "int taken = 1"),
                new Sentence(HEAD, TELLS, "each guest at most one room", P16MostEdgesTest::oneRoomEach)
                        .brokenIn("most", "taken += guests.get(guest).bidPrice",
                                "taken += guests.get(guest).bidPrice * rooms.size()"),
                new Sentence(HEAD, TELLS, "each room at most one guest, the dearest one",
                        P16MostEdgesTest::oneGuestEach)
                        .brokenIn("findRoom", "holder == NONE ||", "holder != guest ||")
                        .brokenIn("isDearer", "onePrice > otherPrice", "onePrice < otherPrice")
                        .brokenIn("most", "if (seating.seat(guest))", "if (seating.seat(guest) || true)"),
                new Sentence(HEAD, TELLS, "of several as dear ones each once, from the first guest to the last",
                        P16MostEdgesTest::asDear)
                        .brokenIn("isDearer", " || onePrice == otherPrice && one < other", "")
                        .brokenIn("nextDearest", "int guest = 0", "int guest = 1")
                        .brokenIn("nextDearest", "guest < guests.size()", "guest < guests.size() - 1")
                        .brokenIn("most", "served < guests.size()", "served < guests.size() - 1"),
                new Sentence(HEAD, TELLS, "ten rooms and twelve guests", P16MostEdgesTest::everyPlace)
                        .brokenIn("most", "served < guests.size()", "served < 9")
                        .brokenIn("allowSeats", "room < rooms.size()", "room < rooms.size() - 1")
                        .brokenIn("allowSeats", "int room = 0", "int room = 1")
                        .brokenIn("allowSeats", "int number = 0", "int number = 1")
                        .brokenIn("allowSeats", "number < guests.size()", "number < guests.size() - 1"),
                new Sentence(HEAD, TELLS, "one moves to the last room for a guest who needs more beds",
                        P16MostEdgesTest::oneMoves)
                        .brokenIn("findRoom", "room < plan.holders.length", "room < plan.holders.length - 1")
                        .brokenIn("findRoom", "plan.holders[room] = guest", "plan.holders[room] = NONE"),
                new Sentence(HEAD, TELLS, "nine move on, each to the only other room, for the cheapest of ten",
                        P16MostEdgesTest::allMove)
                        .brokenIn("findRoom", "holder == NONE || findRoom(plan, holder, depth + 1)", "holder == NONE")
                        .brokenIn("findRoom", "depth > MOST_ROOMS", "depth > 8"),
                new Sentence(HEAD, PAYS, "the own price, for a room without bids, not the least price",
                        P16MostEdgesTest::ownPrice)
                        .brokenIn("allowSeats", ALLOWED, ALLOWED + " && guest.bidRoom == room")
                        .brokenIn("most", "taken += guests.get(guest).bidPrice", "taken += rooms.get(0).least"),
                new Sentence(HEAD, PAYS, "just the coins, the beds and the least price, but not one less",
                        P16MostEdgesTest::wouldCount)
                        .brokenIn("couldBidFor", "coins >= bidPrice", "coins > bidPrice")
                        .brokenIn("couldBidFor", "coins >= bidPrice", "coins >= bidPrice - 1")
                        .brokenIn("couldBidFor", "room.beds >= beds", "room.beds > beds")
                        .brokenIn("couldBidFor", "room.beds >= beds", "room.beds >= beds - 1")
                        .brokenIn("couldBidFor", "bidPrice >= room.least", "bidPrice > room.least")
                        .brokenIn("couldBidFor", "bidPrice >= room.least", "bidPrice >= room.least - 1"),
                new Sentence(HEAD, PAYS, "a bid that does not count for its own room may count for another",
                        P16MostEdgesTest::forAnotherRoom)
                        .brokenIn("allowSeats", ALLOWED, ALLOWED + " && countsFor(guest, guest.bidRoom)"),
                new Sentence(HEAD, RETURNS, "whatever frightens or bores them", P16MostEdgesTest::whateverFrightens)
                        .brokenIn("allowSeats", ALLOWED,
                                ALLOWED + " && !guest.isFrightenedBy(hauntingOfNight(room, NONE))")
                        .brokenIn("allowSeats", ALLOWED, ALLOWED + " && !guest.isUpsetBy(hauntingOfNight(room, NONE))"),
                new Sentence(HEAD, RETURNS, "nothing is changed, and twice the same", P16MostEdgesTest::nothingChanged)
                        .brokenIn("most", "seating.clear();", "")
                        .brokenIn("most", "return taken", "nightsGone++;\nreturn taken")
                        .brokenIn("most", "return taken",
                                "if (isGuest(0)) {\nguests.get(0).dropBid();\n}\nreturn taken"),
                new Sentence(HEAD, RETURNS, "guests who have a bid now: none when it has left, or behind the night",
                        P16MostEdgesTest::bidsOfNow)
                        .brokenIn("leave", "bidder.dropBid();", "")
                        .brokenIn("night", "guests.get(guest).dropBid();", "")
                        .brokenIn("clear", "Arrays.fill(allowedBits, 0)", "allowedBits[0] &= 1"));
    }

    private static void nothingThere() {
        Check.equal("a new inn", 0, new GhostInn().most());
        GhostInn inn = new GhostInn();
        inn.come(100, 1, 0);
        Check.equal("without rooms", 0, inn.most());
        Check.equal("without guests", 0, Inns.withRooms(10).most());
        Check.equal("without bids", 0, Inns.withGuests(12).most());
        GhostInn dear = Inns.withGuests(1);
        dear.bid(0, 0, 101);
        Check.equal("with a bid that counts for no room", 0, dear.most());
    }

    private static void oneRoomEach() {
        GhostInn inn = Inns.withRooms(10);
        inn.come(100, 1, 0);
        inn.bid(0, 3, 70);
        Check.equal("one guest, ten rooms", 70, inn.most());
    }

    private static void oneGuestEach() {
        GhostInn inn = Inns.withRooms(1);
        int[] prices = {50, 51, 49};
        for (int guest = 0; guest < 3; guest++) {
            inn.come(100, 1, 0);
            inn.bid(guest, 0, prices[guest]);
        }
        Check.equal("three guests, one room", 51, inn.most());
        inn.furnish(1, 5, 0);
        Check.equal("three guests, two rooms", 101, inn.most());
        inn.furnish(1, 5, 0);
        Check.equal("three guests, three rooms", 150, inn.most());
        inn.furnish(1, 5, 0);
        Check.equal("three guests, four rooms", 150, inn.most());
    }

    private static void asDear() {
        GhostInn inn = Inns.withRooms(10);
        for (int guest = 0; guest < 10; guest++) {
            inn.come(100, 1, 0);
            inn.bid(guest, 9, 7);
            Check.equal("7 of each of " + (guest + 1), 7 * (guest + 1), inn.most());
        }
        GhostInn one = Inns.withRooms(1);
        for (int guest = 0; guest < 12; guest++) {
            one.come(100, 1, 0);
            one.bid(guest, 0, 7);
            Check.equal("7 for the only room", 7, one.most());
        }
    }

    private static void everyPlace() {
        GhostInn inn = Inns.withRooms(10);
        int sum = 0;
        for (int guest = 0; guest < 12; guest++) {
            inn.come(200, 1, 0);
            inn.bid(guest, 4, 100 + (5 * guest + 7) % 12);
            sum += 100 + guest;
        }
        Check.equal("the dearest ten of twelve", sum - 100 - 101, inn.most());
        inn.leave(8);
        Check.equal("without the dearest one", sum - 100 - 111, inn.most());
    }

    private static void oneMoves() {
        GhostInn inn = new GhostInn();
        for (int room = 0; room < 10; room++) {
            inn.furnish(room == 9 ? 1 : 6, 5, 0);
        }
        for (int guest = 0; guest < 9; guest++) {
            inn.come(200, 1, 0);
            inn.bid(guest, guest, 150 + guest);
        }
        inn.come(200, 6, 0);
        inn.bid(9, 0, 1);
        Check.equal("one of nine moves to the room 9 for the tenth", 9 * 150 + 36 + 1, inn.most());
        inn.come(200, 6, 0);
        inn.bid(10, 0, 2);
        Check.equal("ten rooms: the cheapest one gets none", 9 * 150 + 36 + 2, inn.most());
    }

    /** The guests can have the rooms 8 and 9, 6 to 8, 6 and 7, 4 to 6, 4 and 5 .. 0 to 2, 0 and 1, and room 0 alone. */
    private static void allMove() {
        GhostInn inn = new GhostInn();
        for (int room = 0; room < 10; room++) {
            inn.furnish(1 + room / 2, 5, 10 + 10 * room);
        }
        int sum = 0;
        for (int last = 9; last >= 0; last--) {
            int price = 10 + 10 * last;
            inn.come(price, last == 0 ? 1 : 1 + (last - 1) / 2, 0);
            inn.bid(9 - last, 0, price);
            sum += price;
            Check.equal("with the one who can have the room " + last + " at last", sum, inn.most());
        }
    }

    private static void ownPrice() {
        GhostInn inn = new GhostInn();
        inn.furnish(1, 5, 10);
        inn.furnish(1, 5, 20);
        inn.come(100, 1, 0);
        inn.come(100, 1, 0);
        inn.bid(0, 0, 80);
        inn.bid(1, 0, 90);
        Check.equal("both bids for room 0", 170, inn.most());
        inn.bid(0, 1, 80);
        inn.bid(1, 1, 90);
        Check.equal("both bids for room 1", 170, inn.most());
    }

    private static void wouldCount() {
        GhostInn inn = new GhostInn();
        inn.furnish(3, 5, 40);
        inn.come(50, 3, 0);
        inn.come(200, 4, 0);
        int[][] due = {{0, 50, 50}, {0, 51, 0}, {0, 40, 40}, {0, 39, 0}, {1, 100, 0}};
        for (int[] d : due) {
            inn.bid(d[0], 0, d[1]);
            Check.equal("guest " + d[0] + " for " + d[1], d[2], inn.most());
            inn.leave(d[0]);
        }
        inn.come(200, 2, 0);
        inn.bid(2, 0, 200);
        Check.equal("one bed more than needed", 200, inn.most());
    }

    private static void forAnotherRoom() {
        GhostInn inn = new GhostInn();
        inn.furnish(1, 5, 100);
        inn.furnish(2, 5, 20);
        inn.come(200, 2, 0);
        inn.come(200, 1, 0);
        inn.bid(0, 0, 150);
        Check.equal("too few beds in its own room", 150, inn.most());
        inn.bid(0, 0, 99);
        Check.equal("and too cheap for its own room", 99, inn.most());
        inn.bid(1, 0, 19);
        Check.equal("too cheap for each room", 99, inn.most());
        inn.bid(1, 0, 99);
        Check.equal("one room for two", 99, inn.most());
        inn.bid(1, 0, 100);
        Check.equal("a room for each", 199, inn.most());
    }

    private static void whateverFrightens() {
        GhostInn inn = Inns.haunted(0, 9, 0);
        inn.bid(0, 0, 50);
        Check.equal("frightened", 50, inn.most());
        GhostInn bored = Inns.haunted(0, 0, -9);
        bored.bid(0, 0, 50);
        Check.equal("bored", 50, bored.most());
    }

    private static void nothingChanged() {
        GhostInn two = Inns.withGuests(2);
        two.bid(0, 0, 60);
        two.bid(1, 0, 50);
        for (int time = 1; time <= 3; time++) {
            Check.equal("two guests, asked " + time + " times", 110, two.most());
        }
        for (int n = 0; n < Inns.each().size(); n++) {
            GhostInn inn = Inns.each().get(n).get();
            GhostInn twin = Inns.each().get(n).get();
            int first = inn.most();
            Check.equal("once more", first, inn.most());
            Check.equal("all that it tells", Look.at(twin), Look.at(inn));
            Check.equal("all that it tells later", Look.later(twin), Look.later(inn));
        }
    }

    private static void bidsOfNow() {
        GhostInn inn = Inns.withGuests(2);
        inn.bid(0, 0, 60);
        inn.bid(1, 0, 50);
        Check.equal("two bids", 110, inn.most());
        inn.leave(1);
        Check.equal("one has left", 60, inn.most());
        inn.bid(0, 1, 101);
        Check.equal("the other one is too dear now", 0, inn.most());
        inn.bid(0, 1, 30);
        inn.bid(1, 1, 20);
        inn.night();
        Check.equal("behind the night", 0, inn.most());
    }
}
