import java.util.List;

/** Promise 11: the edges that its sentences name. */
final class P11GuestEdgesTest {
    private static final String HEAD = "Promise 11: guest";
    private static final String WHAT = "0 the coins, 1 the beds that are needed, 2 the nerve, 3 the room of the bid,"
            + " -1 without one, 4 its price, 0 without one, 5 nights in a room in all,"
            + " 6 nights of these in which this one was frightened or bored";
    private static final String INDEX = "Throws `IndexOutOfBoundsException` if there is no such guest,"
            + " or what is not 0 to 6";

    public static void main(String[] args) {
        Sentence.testAll(all());
    }

    static List<Sentence> all() {
        return List.of(
                new Sentence(HEAD, WHAT, "a new guest: without a bid -1 and 0, no nights", P11GuestEdgesTest::newGuest)
                        .brokenIn("guest", "asked.coins", "asked.beds")
                        .brokenIn("guest", "asked.beds", "asked.coins")
                        .brokenIn("guest", "asked.nerve", "asked.beds")
                        .brokenIn("guest", "asked.bidRoom", "asked.bidRoom + 1")
                        .brokenIn("guest", "asked.bidPrice", "asked.bidPrice - 1")
                        .brokenIn("guest", "asked.nightsStayed", "asked.nightsStayed + 1")
                        .brokenIn("guest", "asked.nightsUpset", "asked.nightsUpset + 1"),
                new Sentence(HEAD, WHAT, "the room of the bid: 0 is one, 9 is one, -1 when it is gone",
                        P11GuestEdgesTest::roomOfBid)
                        .brokenIn("guest", "asked.bidRoom", "asked.bidRoom == 0 ? NONE : asked.bidRoom")
                        .brokenIn("guest", "asked.bidRoom", "Math.min(asked.bidRoom, 8)")
                        .brokenIn("dropBid", "bidRoom = NONE", "bidRoom = 0"),
                new Sentence(HEAD, WHAT, "its price: 1, 200, 0 when it is gone", P11GuestEdgesTest::priceOfBid)
                        .brokenIn("guest", "asked.bidPrice", "Math.min(asked.bidPrice, 199)")
                        .brokenIn("guest", "asked.bidPrice", "asked.bidPrice == 1 ? 0 : asked.bidPrice")
                        .brokenIn("dropBid", "bidPrice = 0", "bidPrice = 1"),
                new Sentence(HEAD, WHAT, "coins down to 0, of 0 and of 1000", P11GuestEdgesTest::coins)
                        .brokenIn("stayed", "coins -= spent", "coins = Math.max(coins - spent, 1)")
                        .brokenIn("letRoom", "guest.stayed(paid - back", "guest.stayed(paid")
                        .brokenIn("guest", "asked.coins", "Math.min(asked.coins, 999)"),
                new Sentence(HEAD, WHAT, "nights in a room, and of these frightened or bored ones",
                        P11GuestEdgesTest::nights)
                        .brokenIn("stayed", "nightsStayed++", "nightsStayed = 1")
                        .brokenIn("stayed", "nightsUpset++", "nightsUpset = 1")
                        .brokenIn("stayed", "isUpsetBy(haunting)", "isFrightenedBy(haunting)")
                        .brokenIn("stayed", "isUpsetBy(haunting)", "isUpsetBy(haunting) && nerve < 0")
                        .brokenIn("guest", "asked.nightsStayed", "nightsGone"),
                new Sentence(HEAD, INDEX, "no guest yet", P11GuestEdgesTest::noGuestYet)
                        .brokenIn("guest", "!isGuest(guest)", "guest != 0 && !isGuest(guest)"),
                new Sentence(HEAD, INDEX, "the first and the last guest, but not those beside them",
                        P11GuestEdgesTest::guests)
                        .brokenIn("guest", "!isGuest(guest)", "guest < 0")
                        .brokenIn("guest", "!isGuest(guest)", "guest >= guests.size()")
                        .brokenIn("guest", "!isGuest(guest)", "!isGuest(guest) || guest == 11")
                        .brokenIn("guest", "guests.get(guest)", "guests.get(0)"),
                new Sentence(HEAD, INDEX, "0 and 6, but not -1 and 7", P11GuestEdgesTest::whats)
                        .brokenIn("guest", "case 0:", "case -1:\ncase 0:")
                        .brokenIn("guest", "case 6:", "case 7:\ncase 6:")
                        .brokenIn("guest", "default:\n", "default:\nif (what < 0) {\nreturn 0;\n}\n")
                        .brokenIn("guest", "default:\n", "default:\nif (what > 7) {\nreturn 0;\n}\n"),
                new Sentence(Terms.HEAD, Terms.CHANGES_NOTHING, "guest", P11GuestEdgesTest::refusals)
                        .brokenAheadOf("guest", "throw new IndexOutOfBoundsException(\"no such guest",
                                "throw new IndexOutOfBoundsException(\"a guest"));
    }

    private static void newGuest() {
        GhostInn inn = new GhostInn();
        inn.night();
        inn.come(100, 2, 9);
        tells(inn, 0, 100, 2, 9, -1, 0, 0, 0);
        inn.come(0, 1, -9);
        tells(inn, 1, 0, 1, -9, -1, 0, 0, 0);
        inn.come(1000, 6, 90);
        tells(inn, 2, 1000, 6, 90, -1, 0, 0, 0);
    }

    private static void roomOfBid() {
        GhostInn inn = Inns.withRooms(10);
        inn.come(100, 1, 0);
        for (int room : new int[] {0, 9}) {
            inn.bid(0, room, 10);
            Check.equal("with a bid for " + room, room, inn.guest(0, 3));
            inn.leave(0);
            Check.equal("it has left", -1, inn.guest(0, 3));
        }
        inn.bid(0, 9, 10);
        inn.night();
        Check.equal("the night has gone by", -1, inn.guest(0, 3));
    }

    private static void priceOfBid() {
        GhostInn inn = Inns.withRooms(1);
        inn.come(200, 1, 0);
        for (int price : new int[] {1, 200}) {
            inn.bid(0, 0, price);
            Check.equal("with a bid of " + price, price, inn.guest(0, 4));
            inn.leave(0);
            Check.equal("it has left", 0, inn.guest(0, 4));
        }
        inn.bid(0, 0, 200);
        inn.night();
        Check.equal("the night has gone by", 0, inn.guest(0, 4));
    }

    private static void coins() {
        GhostInn inn = new GhostInn();
        inn.furnish(1, 5, 100);
        inn.furnish(1, 5, 10);
        inn.come(100, 1, 0);
        inn.come(1000, 1, 0);
        inn.come(0, 1, 0);
        inn.bid(0, 0, 100);
        Check.equal("with a bid", 100, inn.guest(0, 0));
        inn.night();
        Check.equal("all is paid", 0, inn.guest(0, 0));
        Check.equal("who had no bid", 1000, inn.guest(1, 0));
        Check.equal("who has none", 0, inn.guest(2, 0));
        inn.haunt(1, 9, 0, 12);
        inn.bid(1, 1, 200);
        inn.night();
        Check.equal("half of 10 is given back", 995, inn.guest(1, 0));
    }

    private static void nights() {
        GhostInn inn = Inns.haunted(0, 1, 0);
        inn.furnish(1, 5, 0);
        inn.come(100, 1, -1);
        tellsNights(inn, 0, 0, 0);
        stay(inn, 0, 1);
        tellsNights(inn, 0, 2, 2);
        stay(inn, 1, 0);
        tellsNights(inn, 0, 4, 2);
        tellsNights(inn, 1, 4, 2);
        inn.night();
        tellsNights(inn, 0, 4, 2);
        inn.bid(0, 0, 101);
        inn.night();
        tellsNights(inn, 0, 4, 2);
    }

    /** Two nights in these rooms: the nerve of guest 0 is 0 in the first two ones, when frightened. */
    private static void stay(GhostInn inn, int firstRoom, int secondRoom) {
        for (int night = 0; night < 2; night++) {
            inn.bid(0, firstRoom, 1);
            inn.bid(1, secondRoom, 1);
            inn.night();
        }
    }

    private static void tellsNights(GhostInn inn, int guest, int stayed, int upset) {
        Check.equal("nights of guest " + guest, stayed, inn.guest(guest, 5));
        Check.equal("frightened or bored ones of guest " + guest, upset, inn.guest(guest, 6));
    }

    private static void noGuestYet() {
        refuses(0, 0, 0);
        refuses(0, 0, 6);
    }

    private static void guests() {
        for (int guests : new int[] {1, 2, 12}) {
            for (int none : new int[] {-1, guests, Integer.MIN_VALUE, Integer.MAX_VALUE}) {
                refuses(guests, none, 0);
                refuses(guests, none, 6);
            }
        }
        GhostInn inn = new GhostInn();
        for (int guest = 0; guest < 12; guest++) {
            inn.come(10 * guest, 1, 0);
        }
        Check.equal("the first guest", 0, inn.guest(0, 0));
        Check.equal("the last guest", 110, inn.guest(11, 0));
    }

    private static void whats() {
        for (int what : new int[] {-1, 7, 8, Integer.MIN_VALUE, Integer.MAX_VALUE}) {
            refuses(1, 0, what);
        }
        GhostInn inn = Inns.withGuests(1);
        Check.equal("guest(0, 0)", 100, inn.guest(0, 0));
        Check.equal("guest(0, 6)", 0, inn.guest(0, 6));
    }

    private static void refuses(int guests, int guest, int what) {
        Refusal.index(() -> Inns.withGuests(guests), "guest(" + guest + ", " + what + ") of " + guests,
                inn -> inn.guest(guest, what));
    }

    private static void refusals() {
        refuses(1, 1, 0);
        refuses(1, 0, 7);
        Refusal.index(Inns::full, "guest(12, -1)", inn -> inn.guest(12, -1));
    }

    private static void tells(GhostInn inn, int guest, int... due) {
        for (int what = 0; what < 7; what++) {
            Check.equal("guest(" + guest + ", " + what + ")", due[what], inn.guest(guest, what));
        }
    }
}
