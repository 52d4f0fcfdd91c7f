import java.util.List;

/** Promise 14: the edges that its sentences name. */
final class P14CountEdgesTest {
    private static final String HEAD = "Promise 14: count";
    private static final String WHAT = "0 the night, 1 rooms, 2 doors, 3 ghosts, 4 guests, 5 the coins of the inn,"
            + " 6 bids, 7 all that was given back in all, 8 rooms that would be let now";
    private static final String INDEX = "Throws `IndexOutOfBoundsException` if what is not 0 to 8";

    public static void main(String[] args) {
        Sentence.testAll(all());
    }

    static List<Sentence> all() {
        return List.of(
                new Sentence(HEAD, WHAT, "nothing there yet: 0 of each", P14CountEdgesTest::nothingThere)
                        .brokenIn("count", "return nightsGone", "return nightsGone + 1")
                        .brokenIn("count", "return bidsWritten()", "return -1")
                        .brokenIn("bidsWritten", "int bids = 0", "int bids = 1")
                        .brokenIn("roomsToLet", "int toLet = 0", "int toLet = 1"),
                new Sentence(HEAD, WHAT, "every place taken: 10, 20, 5, 12 and 12", P14CountEdgesTest::everyPlace)
                        .brokenIn("count", "return rooms.size()", "return Math.min(rooms.size(), 9)")
                        .brokenIn("count", "return doors", "return Math.min(doors, 19)")
                        .brokenIn("count", "return ghosts.size()", "return Math.min(ghosts.size(), 4)")
                        .brokenIn("count", "return guests.size()", "return Math.min(guests.size(), 11)")
                        .brokenIn("bidsWritten", "guest = 0", "guest = 1")
                        .brokenIn("bidsWritten", "guest < guests.size()", "guest < guests.size() - 1"),
                new Sentence(HEAD, WHAT, "one door more for two rooms, none for one that is there",
                        P14CountEdgesTest::doors)
                        .brokenIn("door", "doors++", "doors += 2")
                        .brokenIn("door", "one.leadsTo(b)", "false"),
                new Sentence(HEAD, WHAT, "bids: one that does not count is one, one that left is none",
                        P14CountEdgesTest::bids)
                        .brokenIn("count", "return bidsWritten()", "return bidsThatCount(0)")
                        .brokenIn("count", "return bidsWritten()", "return guests.size()"),
                new Sentence(HEAD, WHAT, "given back in all, over the nights", P14CountEdgesTest::givenBack)
                        .brokenIn("letRoom", "givenBack += back", "givenBack = back")
                        .brokenIn("count", "return givenBack", "return coins"),
                new Sentence(HEAD, WHAT, "rooms that would be let now: from none to all ten",
                        P14CountEdgesTest::roomsToLet)
                        .brokenIn("roomsToLet", "int room = 0", "int room = 1")
                        .brokenIn("roomsToLet", "room < rooms.size()", "room < rooms.size() - 1")
                        .brokenIn("count", "return roomsToLet()", "return bidsWritten()")
                        .brokenIn("roomsToLet", "winnerOf(room) != NONE", "winnerOf(room) > 0"),
                new Sentence(HEAD, INDEX, "0 and 8, but not -1 and 9", P14CountEdgesTest::whats)
                        .brokenIn("count", "case 0:", "case -1:\ncase 0:")
                        .brokenIn("count", "case 8:", "case 9:\ncase 8:")
                        .brokenIn("count", "case 8:", "case 10:")
                        .brokenIn("count", "default:\n", "default:\nif (what < 0) {\nreturn 0;\n}\n")
                        .brokenIn("count", "default:\n", "default:\nif (what > 9) {\nreturn 0;\n}\n"),
                new Sentence(Terms.HEAD, Terms.CHANGES_NOTHING, "count", P14CountEdgesTest::refusals)
                        .brokenAheadOf("count", "throw new IndexOutOfBoundsException"));
    }

    private static void nothingThere() {
        tells(new GhostInn(), "a new inn", 0, 0, 0, 0, 0, 0, 0, 0, 0);
    }

    private static void everyPlace() {
        GhostInn inn = Inns.withDoors(20);
        for (int ghost = 0; ghost < 5; ghost++) {
            inn.haunt(ghost, 9, 0, 12);
        }
        for (int guest = 0; guest < 12; guest++) {
            inn.come(100, 1, 0);
            inn.bid(guest, guest % 10, 50);
        }
        tells(inn, "a full inn", 0, 10, 20, 5, 12, 0, 12, 0, 10);
        inn.leave(11);
        inn.leave(0);
        tells(inn, "without two bids", 0, 10, 20, 5, 12, 0, 10, 0, 10);
    }

    private static void doors() {
        GhostInn inn = Inns.withRooms(2);
        Check.equal("no door", 0, inn.count(2));
        inn.door(0, 1);
        Check.equal("a door", 1, inn.count(2));
        inn.door(1, 0);
        Check.equal("the same from its other side", 1, inn.count(2));
    }

    private static void bids() {
        GhostInn inn = Inns.withGuests(3);
        inn.bid(0, 0, 101);
        Check.equal("one that does not count", 1, inn.count(6));
        inn.bid(0, 1, 50);
        Check.equal("another one in its place", 1, inn.count(6));
        inn.bid(2, 1, 50);
        Check.equal("one of another guest", 2, inn.count(6));
        inn.leave(0);
        Check.equal("one has left", 1, inn.count(6));
        inn.leave(1);
        Check.equal("one without a bid has left", 1, inn.count(6));
        inn.night();
        Check.equal("the night has gone by", 0, inn.count(6));
    }

    private static void givenBack() {
        GhostInn inn = Inns.haunted(5, 9, 0);
        for (int night = 1; night <= 3; night++) {
            inn.bid(0, 0, 50);
            inn.night();
            Check.equal("2 of 5 are given back, night " + night, 2 * night, inn.count(7));
            Check.equal("3 are left, night " + night, 3 * night, inn.count(5));
        }
        inn.night();
        Check.equal("a night without bids", 6, inn.count(7));
    }

    private static void roomsToLet() {
        GhostInn inn = Inns.withRooms(10);
        for (int guest = 0; guest < 12; guest++) {
            inn.come(100, 1, 0);
        }
        Check.equal("without bids", 0, inn.count(8));
        for (int guest = 0; guest < 10; guest++) {
            inn.bid(guest, 9 - guest, 50);
            Check.equal("bids for rooms from the last one on", guest + 1, inn.count(8));
        }
        inn.bid(10, 0, 50);
        inn.bid(11, 9, 101);
        Check.equal("two bids for one room", 10, inn.count(8));
        inn.leave(0);
        Check.equal("a bid that does not count lets no room", 9, inn.count(8));
        inn.leave(9);
        Check.equal("the other bid lets the room", 9, inn.count(8));
        inn.leave(10);
        Check.equal("no bid lets no room", 8, inn.count(8));
        inn.night();
        Check.equal("the night has gone by", 0, inn.count(8));
    }

    private static void whats() {
        for (int what : new int[] {-1, 9, 10, Integer.MIN_VALUE, Integer.MAX_VALUE}) {
            Refusal.index(GhostInn::new, "count(" + what + ")", inn -> inn.count(what));
        }
        Check.equal("count(0)", 0, new GhostInn().count(0));
        Check.equal("count(8)", 0, new GhostInn().count(8));
    }

    private static void refusals() {
        Refusal.index(Inns::some, "count(-1)", inn -> inn.count(-1));
        Refusal.index(Inns::full, "count(9)", inn -> inn.count(9));
    }

    private static void tells(GhostInn inn, String when, int... due) {
        for (int what = 0; what < 9; what++) {
            Check.equal(when + ", count(" + what + ")", due[what], inn.count(what));
        }
    }
}
