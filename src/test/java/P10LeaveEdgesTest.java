import java.util.List;

/** Promise 10: the edges that its sentences name. */
final class P10LeaveEdgesTest {
    private static final String HEAD = "Promise 10: leave";
    private static final String RETURNS = "Returns the room for which this one had a bid, which is gone now;"
            + " -1 if there was none.";
    private static final String INDEX = "Throws `IndexOutOfBoundsException` if there is no such guest";

    public static void main(String[] args) {
        Sentence.testAll(all());
    }

    static List<Sentence> all() {
        return List.of(
                new Sentence(HEAD, RETURNS, "the first and the last room", P10LeaveEdgesTest::rooms)
                        .brokenIn("leave", "return room", "return room == 0 ? NONE : room")
                        .brokenIn("leave", "return room", "return Math.min(room, 8)")
                        .brokenIn("leave", "return room", "return bidder.bidRoom"),
                new Sentence(HEAD, RETURNS, "-1 without a bid yet, and when it is gone", P10LeaveEdgesTest::none)
                        .brokenIn("leave", "return room", "return room == NONE ? 0 : room")
                        .brokenIn("leave", "bidder.dropBid();", "")
                        .brokenIn("night", "guests.get(guest).dropBid();", ""),
                new Sentence(HEAD, RETURNS, "a bid that does not count is one", P10LeaveEdgesTest::thatDoesNotCount)
                        .brokenIn("leave", "return room", "return bidder.coins < 100 ? NONE : room")
                        .brokenIn("leave", "bidder.dropBid();", "if (bidder.coins >= 100) {\nbidder.dropBid();\n}"),
                new Sentence(HEAD, RETURNS, "with bids of all twelve guests, this one's alone",
                        P10LeaveEdgesTest::thisOneAlone)
                        .brokenIn("leave", "bidder.dropBid();", "bidder.dropBid();\nguests.get(0).dropBid();")
                        .brokenIn("dropBid", "bidPrice = 0;", ""),
                new Sentence(HEAD, INDEX, "no guest yet", P10LeaveEdgesTest::noGuestYet)
                        .brokenIn("leave", "!isGuest(guest)", "guest != 0 && !isGuest(guest)"),
                new Sentence(HEAD, INDEX, "the first and the last guest, but not those beside them",
                        P10LeaveEdgesTest::guests)
                        .brokenIn("leave", "!isGuest(guest)", "guest < 0")
                        .brokenIn("leave", "!isGuest(guest)", "guest >= guests.size()")
                        .brokenIn("leave", "!isGuest(guest)", "!isGuest(guest) || guest == 0")
                        .brokenIn("leave", "!isGuest(guest)", "!isGuest(guest) || guest == 11"),
                new Sentence(Terms.HEAD, Terms.CHANGES_NOTHING, "leave", P10LeaveEdgesTest::refusals)
                        .brokenAheadOf("leave", "throw new IndexOutOfBoundsException")
                        .brokenIn("leave", "throw new IndexOutOfBoundsException",
                                "if (isGuest(0)) {\nguests.get(0).dropBid();\n}\nthrow new IndexOutOfBoundsException"));
    }

    private static void rooms() {
        GhostInn inn = Inns.withRooms(10);
        inn.come(100, 1, 0);
        inn.bid(0, 0, 10);
        Check.equal("the first room", 0, inn.leave(0));
        inn.bid(0, 9, 10);
        Check.equal("the last room", 9, inn.leave(0));
    }

    private static void none() {
        GhostInn inn = Inns.withGuests(1);
        Check.equal("without a bid yet", -1, inn.leave(0));
        inn.bid(0, 1, 10);
        Check.equal("with one", 1, inn.leave(0));
        Check.equal("it is gone", -1, inn.leave(0));
        inn.bid(0, 1, 10);
        inn.night();
        Check.equal("gone with the night", -1, inn.leave(0));
    }

    private static void thatDoesNotCount() {
        GhostInn inn = Inns.withRooms(2);
        inn.come(9, 1, 0);
        inn.bid(0, 1, 10);
        Check.equal("too dear", 1, inn.leave(0));
        Check.equal("count(6)", 0, inn.count(6));
        Check.equal("it is gone", -1, inn.leave(0));
    }

    private static void thisOneAlone() {
        GhostInn inn = Inns.withGuests(12);
        for (int guest = 0; guest < 12; guest++) {
            inn.bid(guest, 0, 50 + guest);
        }
        for (int guest = 11; guest >= 0; guest--) {
            Check.equal("the winner ahead", guest, inn.wins(0, 0));
            Check.equal("leave(" + guest + ")", 0, inn.leave(guest));
            Check.equal("the room of the bid", -1, inn.guest(guest, 3));
            Check.equal("its price", 0, inn.guest(guest, 4));
            Check.equal("bids that are left", guest, inn.count(6));
            Check.equal("all guests are there", 12, inn.count(4));
        }
        Check.equal("nobody wins", -1, inn.wins(0, 0));
    }

    private static void noGuestYet() {
        refuses(0, 0);
        Refusal.index(GhostInn::new, "leave(0) without rooms", inn -> inn.leave(0));
    }

    private static void guests() {
        for (int guests : new int[] {1, 2, 12}) {
            for (int none : new int[] {-1, guests, Integer.MIN_VALUE, Integer.MAX_VALUE}) {
                refuses(guests, none);
            }
        }
        GhostInn inn = Inns.withGuests(12);
        inn.bid(0, 0, 5);
        inn.bid(11, 1, 5);
        Check.equal("the first guest", 0, inn.leave(0));
        Check.equal("the last guest", 1, inn.leave(11));
    }

    private static void refuses(int guests, int guest) {
        Refusal.index(() -> Inns.withGuests(guests), "leave(" + guest + ") of " + guests, inn -> inn.leave(guest));
    }

    private static void refusals() {
        refuses(2, 2);
        Refusal.index(Inns::full, "leave(12)", inn -> inn.leave(12));
        Refusal.index(Inns::full, "leave(-1)", inn -> inn.leave(-1));
    }
}
