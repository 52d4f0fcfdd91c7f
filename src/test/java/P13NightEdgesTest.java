import java.util.List;

/** Promise 13: the edges that its sentences name, and those of what a night does. */
final class P13NightEdgesTest {
    private static final String HEAD = "Promise 13: night";
    private static final String GOES_BY = "Lets the night go by.";
    private static final String RETURNS = "Returns the coins of the inn then.";
    private static final String WHOLE = "All numbers are whole, and / is cut towards 0.";
    private static final String NIGHTS = "Time is told in nights, from 0; a night has 12 hours, 0 to 11.";
    private static final String GUESTS = "There are at most 12, numbered likewise; each has coins, 0 or more,"
            + " needs beds, 1 to 6, and has nerve, -9 to 90: a guest is frightened in a room whose haunting of the"
            + " night is greater than the nerve; one with a nerve of less than 0 seeks ghosts, and is never frightened,"
            + " but bored in a room with a haunting of less than -nerve.";
    private static final String BACK = "Each guest who won a room and is frightened or bored (by the nerve ahead of"
            + " this step) gets back what was paid / 2.";
    private static final String NERVE = "Then each guest who won a room, with a nerve of 0 or more, has 1 less of it,"
            + " if frightened (at least 0), otherwise 1 more (at most 90); one who seeks ghosts has as much as before.";
    private static final String COMFORT = "The comfort of a room whose guest was frightened is 1 less (at least 0).";
    private static final String BIDS = "All bids are gone.";
    private static final String COINS = "The inn has what was paid, less what was given back.";
    private static final String GREATER = "The night is 1 greater.";
    private static final String LESS = "nerve = Math.max(nerve - 1, 0)";
    private static final String MORE = "nerve = Math.min(nerve + 1, MOST_NERVE)";

    public static void main(String[] args) {
        Sentence.testAll(all());
    }

    static List<Sentence> all() {
        return List.of(
                new Sentence(HEAD, GOES_BY, "with nothing there yet", P13NightEdgesTest::nothingThere)
                        .brokenIn("night", "nightsGone++", "nightsGone += rooms.size()"),
                new Sentence(HEAD, GOES_BY, "with every room let, each to its winner", P13NightEdgesTest::everyRoom)
                        .brokenIn("night", "int room = 0", "int room = 1")
                        .brokenIn("night", "room < rooms.size()", "room < rooms.size() - 1"),
                new Sentence(HEAD, RETURNS, "0 in the beginning, then with what was paid, then as much without bids",
                        P13NightEdgesTest::coinsThen)
                        .brokenIn("night", "return coins", "return nightsGone")
                        .brokenIn("letRoom", "coins += paid - back", "coins = paid - back"),
                new Sentence(Terms.HEAD, WHOLE, "0, 1, 2, 3 and 99 paid: 0, 0, 1, 1 and 49 are half of it",
                        P13NightEdgesTest::halves)
                        .brokenIn("letRoom", "paid / 2", "(paid + 1) / 2")
                        .brokenIn("letRoom", "paid / 2", "Math.max(paid / 2, 1)")
                        .brokenIn("letRoom", "paid / 2", "paid"),
                new Sentence(Terms.HEAD, NIGHTS, "the night 0, then 1, then 2", P13NightEdgesTest::nights)
                        .brokenIn("night", "nightsGone++", "nightsGone = 1")
                        .brokenIn("count", "return nightsGone", "return nightsGone + 1"),
                new Sentence(Terms.HEAD, GUESTS, "frightened by one more than the nerve, not by just as much",
                        P13NightEdgesTest::frightened)
                        .brokenIn("isFrightenedBy", "haunting > nerve", "haunting >= nerve")
                        .brokenIn("isFrightenedBy", "haunting > nerve", "haunting > nerve + 1"),
                new Sentence(Terms.HEAD, GUESTS, "a nerve of 0 is one that is frightened, -1 one that seeks ghosts",
                        P13NightEdgesTest::seeks)
                        .brokenIn("isFrightenedBy", "nerve >= 0", "nerve > 0")
                        .brokenIn("isFrightenedBy", "nerve >= 0", "nerve >= -1")
                        .brokenIn("isUpsetBy", "nerve < 0", "nerve < -1"),
                new Sentence(Terms.HEAD, GUESTS, "bored by one less than -nerve, not by just as much",
                        P13NightEdgesTest::bored)
                        .brokenIn("isUpsetBy", "haunting < -nerve", "haunting <= -nerve")
                        .brokenIn("isUpsetBy", "haunting < -nerve", "haunting < -nerve - 1"),
                new Sentence(Terms.HEAD, BACK, "frightened or bored, but not at the edge beside",
                        P13NightEdgesTest::givenBack)
                        .brokenIn("letRoom", "guest.isUpsetBy(haunting)", "guest.isFrightenedBy(haunting)")
                        .brokenIn("letRoom", "guest.isUpsetBy(haunting)",
                                "guest.isUpsetBy(haunting) && !guest.isFrightenedBy(haunting)")
                        .brokenIn("letRoom", "guest.isUpsetBy(haunting)", "guest.isUpsetBy(haunting + 1)")
                        .brokenIn("letRoom", "guest.isUpsetBy(haunting)", "guest.isUpsetBy(haunting - 1)"),
                new Sentence(Terms.HEAD, NERVE, "frightened: 1 less, at least 0", P13NightEdgesTest::lessNerve)
                        .brokenIn("stayed", LESS, "nerve = nerve - 1")
                        .brokenIn("stayed", LESS, "nerve = Math.max(nerve - 1, 1)"),
                new Sentence(Terms.HEAD, NERVE, "otherwise: 1 more, at most 90", P13NightEdgesTest::moreNerve)
                        .brokenIn("stayed", MORE, "nerve = nerve + 1")
                        .brokenIn("stayed", MORE, "nerve = Math.min(nerve + 1, MOST_NERVE - 1)")
                        .brokenIn("stayed", "else if (nerve >= 0)", "else if (nerve > 0)"),
                new Sentence(Terms.HEAD, NERVE, "one who seeks ghosts, from -1 to -9, bored or not",
                        P13NightEdgesTest::seekersNerve)
                        .brokenIn("stayed", "else if (nerve >= 0)", "else if (nerve >= -1)")
                        .brokenIn("stayed", "else if (nerve >= 0)", "else if (nerve >= -9)"),
                new Sentence(Terms.HEAD, NERVE, "who won none has as much as before", P13NightEdgesTest::losersNerve)
                        .brokenIn("night", "guests.get(guest).dropBid();",
                                "if (guests.get(guest).hasBid()) {\nguests.get(guest).nerve++;\n}\n"
                                + "guests.get(guest).dropBid();"),
                new Sentence(Terms.HEAD, COMFORT, "1 less, at least 0", P13NightEdgesTest::lessComfort)
                        .brokenIn("wasLet", "Math.max(comfort - 1, 0)", "comfort - 1")
                        .brokenIn("wasLet", "Math.max(comfort - 1, 0)", "Math.max(comfort - 1, 1)"),
                new Sentence(Terms.HEAD, COMFORT, "as much, if the guest was bored or neither",
                        P13NightEdgesTest::sameComfort)
                        .brokenIn("letRoom", "guest.isFrightenedBy(haunting)", "guest.isUpsetBy(haunting)")
                        .brokenIn("letRoom", "guest.isFrightenedBy(haunting)", "true"),
                new Sentence(Terms.HEAD, BIDS, "those of the first and the last guest, won, lost or not counting",
                        P13NightEdgesTest::bidsGone)
                        .brokenIn("night", "guest = 0", "guest = 1")
                        .brokenIn("night", "guest < guests.size()", "guest < guests.size() - 1")
                        .brokenIn("night", "guests.get(guest).dropBid();",
                                "if (guests.get(guest).coins < 100) {\nguests.get(guest).dropBid();\n}"),
                new Sentence(Terms.HEAD, COINS, "paid and given back, from the first to the last room",
                        P13NightEdgesTest::coinsOfInn)
                        .brokenIn("letRoom", "coins += paid - back", "coins += paid")
                        .brokenIn("letRoom", "givenBack += back", "givenBack = back")
                        .brokenIn("letRoom", "givenBack += back", "givenBack += paid"),
                new Sentence(Terms.HEAD, GREATER, "with rooms let, and without", P13NightEdgesTest::nightIsGreater)
                        .brokenIn("night", "nightsGone++", "nightsGone += 2")
                        .brokenIn("night", "nightsGone++", "nightsGone += coins > 0 ? 1 : 0"));
    }

    private static void nothingThere() {
        GhostInn inn = new GhostInn();
        Check.equal("night() of an empty inn", 0, inn.night());
        Check.equal("count(0)", 1, inn.count(0));
        inn.come(100, 1, 5);
        Check.equal("night() without rooms", 0, inn.night());
        Check.equal("the nerve of who has no room", 5, inn.guest(0, 2));
        Check.equal("count(0)", 2, inn.count(0));
    }

    private static void everyRoom() {
        GhostInn inn = new GhostInn();
        for (int room = 0; room < 10; room++) {
            inn.furnish(1, 5, 1 + room);
        }
        for (int guest = 0; guest < 12; guest++) {
            inn.come(100, 1, 0);
            inn.bid(guest, guest % 10, 50 + guest);
        }
        // The guests 10 and 11 win the rooms 0 and 1 for 50 and 51; the rooms 2 to 9 cost 3 to 10.
        Check.equal("night()", 50 + 51 + 52, inn.night());
        for (int room = 0; room < 10; room++) {
            Check.equal("nights of room " + room, 1, inn.room(room, 4));
            Check.equal("paid for room " + room, room < 2 ? 50 + room : 1 + room, inn.room(room, 5));
        }
        for (int guest = 0; guest < 12; guest++) {
            Check.equal("nights of guest " + guest, guest < 2 ? 0 : 1, inn.guest(guest, 5));
        }
    }

    private static void coinsThen() {
        GhostInn inn = Inns.haunted(30, 0, 0);
        Check.equal("without bids", 0, inn.night());
        inn.bid(0, 0, 90);
        Check.equal("30 paid", 30, inn.night());
        inn.bid(0, 0, 60);
        Check.equal("30 paid once more", 60, inn.night());
        Check.equal("without bids", 60, inn.night());
        inn.bid(0, 0, 41);
        Check.equal("a bid that does not count", 60, inn.night());
    }

    private static void halves() {
        int[] paid = {0, 1, 2, 3, 99};
        int[] half = {0, 0, 1, 1, 49};
        for (int n = 0; n < paid.length; n++) {
            GhostInn inn = Inns.haunted(paid[n], 9, 0);
            inn.bid(0, 0, 100);
            Check.equal(paid[n] + " paid", paid[n] - half[n], inn.night());
            Check.equal(paid[n] + " paid, given back", half[n], inn.count(7));
            Check.equal(paid[n] + " paid, coins of the guest", 100 - paid[n] + half[n], inn.guest(0, 0));
            Check.equal(paid[n] + " paid, frightened nights", 1, inn.guest(0, 6));
        }
    }

    private static void nights() {
        GhostInn inn = new GhostInn();
        for (int night = 0; night < 3; night++) {
            Check.equal("the night", night, inn.count(0));
            inn.night();
        }
    }

    private static void frightened() {
        for (int nerve : new int[] {0, 1, 5, 8}) {
            upset(nerve, nerve, false);
            upset(nerve + 1, nerve, true);
        }
        upset(0, 0, false);
        upset(9, 90, false);
        hauntedByMany(90, false);
        hauntedByMany(91, true);
    }

    /** With a nerve of 90, and a haunting of this, up to 99. */
    private static void hauntedByMany(int haunting, boolean due) {
        GhostInn inn = Inns.haunted(40, 0, 90);
        inn.haunt(0, 9, 0, 10);
        if (haunting > 90) {
            inn.haunt(0, haunting - 90, 11, 12);
        }
        stays(inn, "a nerve of 90 and a haunting of " + haunting, due);
    }

    private static void seeks() {
        upset(1, 0, true);
        upset(0, 0, false);
        upset(0, -1, true);
        upset(1, -1, false);
        upset(9, -1, false);
    }

    private static void bored() {
        for (int nerve = -9; nerve < 0; nerve++) {
            upset(-nerve, nerve, false);
            upset(-nerve - 1, nerve, true);
        }
        upset(0, -9, true);
    }

    private static void upset(int haunting, int nerve, boolean due) {
        stays(Inns.haunted(40, haunting, nerve), "a nerve of " + nerve + " and a haunting of " + haunting, due);
    }

    private static void stays(GhostInn inn, String when, boolean due) {
        inn.bid(0, 0, 100);
        inn.night();
        Check.equal(when + ", a night in a room", 1, inn.guest(0, 5));
        Check.equal(when + ", frightened or bored", due ? 1 : 0, inn.guest(0, 6));
        Check.equal(when + ", given back", due ? 20 : 0, inn.count(7));
    }

    private static void givenBack() {
        upset(6, 5, true);
        upset(5, 5, false);
        upset(4, -5, true);
        upset(5, -5, false);
    }

    private static void lessNerve() {
        int[] ahead = {0, 1, 2, 8};
        int[] due = {0, 0, 1, 7};
        for (int n = 0; n < ahead.length; n++) {
            GhostInn inn = Inns.haunted(0, 9, ahead[n]);
            inn.bid(0, 0, 1);
            inn.night();
            Check.equal("frightened, a nerve of " + ahead[n], due[n], inn.guest(0, 2));
        }
    }

    private static void moreNerve() {
        int[] ahead = {0, 1, 88, 89, 90};
        int[] due = {1, 2, 89, 90, 90};
        for (int n = 0; n < ahead.length; n++) {
            GhostInn inn = Inns.haunted(0, 0, ahead[n]);
            inn.bid(0, 0, 1);
            inn.night();
            Check.equal("not frightened, a nerve of " + ahead[n], due[n], inn.guest(0, 2));
        }
    }

    private static void seekersNerve() {
        for (int nerve = -9; nerve < 0; nerve++) {
            for (int haunting : new int[] {0, -nerve - 1, -nerve, 9}) {
                GhostInn inn = Inns.haunted(0, haunting, nerve);
                inn.bid(0, 0, 1);
                inn.night();
                Check.equal("a haunting of " + haunting + ", a nerve of " + nerve, nerve, inn.guest(0, 2));
            }
        }
    }

    private static void losersNerve() {
        GhostInn inn = Inns.haunted(10, 9, 5);
        inn.come(100, 1, 5);
        inn.come(100, 1, 0);
        inn.come(100, 1, 5);
        inn.bid(0, 0, 50);
        inn.bid(1, 0, 49);
        inn.bid(2, 0, 101);
        inn.night();
        Check.equal("who won", 4, inn.guest(0, 2));
        Check.equal("who lost", 5, inn.guest(1, 2));
        Check.equal("whose bid does not count", 0, inn.guest(2, 2));
        Check.equal("who has no bid", 5, inn.guest(3, 2));
    }

    private static void lessComfort() {
        int[] due = {0, 0, 1, 8};
        int[] ahead = {0, 1, 2, 9};
        for (int n = 0; n < ahead.length; n++) {
            GhostInn inn = new GhostInn();
            inn.furnish(1, ahead[n], 0);
            inn.haunt(0, 1, 0, 1);
            inn.come(100, 1, 0);
            inn.bid(0, 0, 1);
            inn.night();
            Check.equal("frightened, a comfort of " + ahead[n], due[n], inn.room(0, 1));
        }
    }

    private static void sameComfort() {
        int[][] notFrightened = {{5, 5}, {0, 0}, {4, -5}, {5, -5}, {9, -1}};
        for (int[] n : notFrightened) {
            GhostInn inn = Inns.haunted(0, n[0], n[1]);
            inn.bid(0, 0, 1);
            inn.night();
            Check.equal("a haunting of " + n[0] + ", a nerve of " + n[1], 5, inn.room(0, 1));
        }
        GhostInn inn = Inns.haunted(10, 9, 0);
        inn.bid(0, 0, 9);
        inn.night();
        Check.equal("not let", 5, inn.room(0, 1));
    }

    private static void bidsGone() {
        GhostInn inn = Inns.withGuests(12);
        for (int guest = 0; guest < 12; guest++) {
            inn.bid(guest, guest % 2, guest == 5 ? 101 : 50 + guest);
        }
        inn.night();
        Check.equal("count(6)", 0, inn.count(6));
        for (int guest = 0; guest < 12; guest++) {
            Check.equal("the room of the bid of " + guest, -1, inn.guest(guest, 3));
            Check.equal("its price", 0, inn.guest(guest, 4));
        }
    }

    private static void coinsOfInn() {
        GhostInn inn = Inns.withRooms(9);
        inn.furnish(1, 5, 31);
        inn.haunt(9, 1, 0, 1);
        inn.come(100, 1, 0);
        inn.come(100, 1, 0);
        inn.come(100, 1, 0);
        inn.bid(0, 9, 90);
        inn.bid(1, 0, 20);
        inn.bid(2, 0, 30);
        Check.equal("20 paid for room 0, 31 less 15 for room 9", 36, inn.night());
        Check.equal("count(5)", 36, inn.count(5));
        Check.equal("count(7)", 15, inn.count(7));
        inn.bid(0, 9, 50);
        inn.bid(1, 0, 20);
        Check.equal("nothing for room 0, 31 less 15 for room 9", 52, inn.night());
        Check.equal("count(5)", 52, inn.count(5));
        Check.equal("count(7)", 30, inn.count(7));
    }

    private static void nightIsGreater() {
        GhostInn inn = Inns.haunted(10, 0, 0);
        inn.night();
        Check.equal("without bids", 1, inn.count(0));
        inn.bid(0, 0, 50);
        inn.night();
        Check.equal("with a room let", 2, inn.count(0));
        inn.bid(0, 0, 200);
        inn.night();
        Check.equal("with a bid that does not count", 3, inn.count(0));
    }
}
