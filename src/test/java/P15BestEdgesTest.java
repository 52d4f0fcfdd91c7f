import java.util.List;

/** Promise 15: the edges that its sentences name. */
final class P15BestEdgesTest {
    private static final String HEAD = "Promise 15: best";
    private static final String RETURNS = "Returns the room with the greatest comfort that has beds enough, in which"
            + " this one would be neither frightened nor bored this night, and the least price of which is at most the"
            + " coins of this one; of several the one with the smallest number; -1 if there is none.";
    private static final String INDEX = "Throws `IndexOutOfBoundsException` if there is no such guest";
    private static final String BEDS = "room.beds >= asking.beds";
    private static final String LEAST = "room.least <= asking.coins";
    private static final String UPSET = "isUpsetBy(hauntingOfNight(number, NONE))";

    public static void main(String[] args) {
        Sentence.testAll(all());
    }

    static List<Sentence> all() {
        return List.of(
                new Sentence(HEAD, RETURNS, "-1 without rooms, and when none will do", P15BestEdgesTest::none)
                        .brokenIn("best", "int best = NONE", "int best = 0")
                        .brokenIn("best", "return best;", "return best == NONE ? 0 : best;"),
                new Sentence(HEAD, RETURNS, "a room of comfort 0 is better than none", P15BestEdgesTest::comfortZero)
                        .brokenIn("best", "bestComfort = -1", "bestComfort = 0"),
                new Sentence(HEAD, RETURNS, "one more of comfort, in the first and in the last room",
                        P15BestEdgesTest::greatest)
                        .brokenIn("best", "room.comfort > bestComfort", "room.comfort > bestComfort + 1")
                        .brokenIn("best", "int number = 0", "int number = 1")
                        .brokenIn("best", "number < rooms.size()", "number < rooms.size() - 1")
                        .brokenIn("best", "bestComfort = room.comfort", "bestComfort = 9")
                        .brokenIn("best", "return best;", "return best == 0 ? NONE : best;"),
                new Sentence(HEAD, RETURNS, "of several the smallest number", P15BestEdgesTest::ofSeveral)
                        .brokenIn("best", "room.comfort > bestComfort", "room.comfort >= bestComfort"),
                new Sentence(HEAD, RETURNS, "just the beds, but not one less", P15BestEdgesTest::beds)
                        .brokenIn("best", BEDS, "room.beds > asking.beds")
                        .brokenIn("best", BEDS, "room.beds >= asking.beds - 1")
                        .brokenIn("best", BEDS, "room.beds == asking.beds"),
                new Sentence(HEAD, RETURNS, "just the coins, but not one less", P15BestEdgesTest::coins)
                        .brokenIn("best", LEAST, "room.least < asking.coins")
                        .brokenIn("best", LEAST, "room.least <= asking.coins + 1"),
                new Sentence(HEAD, RETURNS, "the coins of now, whatever the bid", P15BestEdgesTest::coinsOfNow)
                        .brokenIn("best", LEAST, "room.least <= asking.coins - asking.bidPrice")
                        .brokenIn("stayed", "coins -= spent;", ""),
                new Sentence(HEAD, RETURNS, "a haunting that is the nerve, but not one more",
                        P15BestEdgesTest::frightened)
                        .brokenIn("best", UPSET, "isUpsetBy(hauntingOfNight(number, NONE) + 1)")
                        .brokenIn("best", UPSET, "isUpsetBy(hauntingOfNight(number, NONE) - 1)")
                        .brokenIn("best", UPSET, "isUpsetBy(hauntingInHour(number, 0, NONE))"),
                new Sentence(HEAD, RETURNS, "a haunting that is -nerve, but not one less", P15BestEdgesTest::bored)
                        .brokenIn("best", UPSET, "isUpsetBy(hauntingOfNight(number, NONE) + 1)")
                        .brokenIn("best", UPSET, "isUpsetBy(hauntingOfNight(number, NONE) - 1)")
                        .brokenIn("best", UPSET, "isFrightenedBy(hauntingOfNight(number, NONE))"),
                new Sentence(HEAD, RETURNS, "this night: with the comfort and the nerve of now",
                        P15BestEdgesTest::thisNight)
                        .brokenIn("wasLet", "Math.max(comfort - 1, 0)", "comfort")
                        .brokenIn("stayed", "nerve = Math.max(nerve - 1, 0)", "nerve = nerve"),
                new Sentence(HEAD, INDEX, "no guest yet", P15BestEdgesTest::noGuestYet)
                        .brokenIn("best", "!isGuest(guest)", "guest != 0 && !isGuest(guest)"),
                new Sentence(HEAD, INDEX, "the first and the last guest, but not those beside them",
                        P15BestEdgesTest::guests)
                        .brokenIn("best", "!isGuest(guest)", "guest < 0")
                        .brokenIn("best", "!isGuest(guest)", "guest >= guests.size()")
                        .brokenIn("best", "!isGuest(guest)", "!isGuest(guest) || guest == 0")
                        .brokenIn("best", "!isGuest(guest)", "!isGuest(guest) || guest == 11"),
                new Sentence(Terms.HEAD, Terms.CHANGES_NOTHING, "best", P15BestEdgesTest::refusals)
                        .brokenAheadOf("best", "throw new IndexOutOfBoundsException"));
    }

    private static void none() {
        GhostInn inn = new GhostInn();
        inn.come(50, 2, 0);
        Check.equal("without rooms", -1, inn.best(0));
        inn.furnish(1, 9, 0);
        inn.furnish(2, 9, 51);
        inn.furnish(6, 9, 50);
        inn.haunt(2, 1, 0, 1);
        Check.equal("too small, too dear, too haunted", -1, inn.best(0));
        for (int room = 3; room < 10; room++) {
            inn.furnish(1, 9, 100);
        }
        Check.equal("ten rooms, none of which will do", -1, inn.best(0));
    }

    private static void comfortZero() {
        GhostInn inn = new GhostInn();
        inn.come(50, 1, 0);
        inn.furnish(1, 0, 0);
        Check.equal("the only room", 0, inn.best(0));
        inn.furnish(1, 0, 0);
        Check.equal("another one", 0, inn.best(0));
    }

    private static void greatest() {
        for (int best = 0; best < 10; best++) {
            GhostInn inn = new GhostInn();
            inn.come(50, 1, 0);
            for (int room = 0; room < 10; room++) {
                inn.furnish(1, room == best ? 6 : 5, 0);
            }
            Check.equal("6 among 5", best, inn.best(0));
        }
        GhostInn inn = new GhostInn();
        inn.come(50, 1, 0);
        for (int comfort = 0; comfort < 10; comfort++) {
            inn.furnish(1, comfort, 0);
            Check.equal("a comfort of " + comfort, comfort, inn.best(0));
        }
    }

    private static void ofSeveral() {
        GhostInn inn = new GhostInn();
        inn.come(50, 1, 0);
        inn.furnish(1, 8, 0);
        for (int room = 1; room < 10; room++) {
            inn.furnish(1, 9, 0);
            Check.equal("nine of comfort 9 behind one of 8", 1, inn.best(0));
        }
    }

    private static void beds() {
        for (int beds = 1; beds <= 6; beds++) {
            for (int needed = 1; needed <= 6; needed++) {
                GhostInn inn = new GhostInn();
                inn.furnish(beds, 5, 0);
                inn.come(50, needed, 0);
                Check.equal(needed + " needed of " + beds, needed <= beds ? 0 : -1, inn.best(0));
            }
        }
    }

    private static void coins() {
        for (int least : new int[] {0, 1, 99, 100}) {
            GhostInn inn = new GhostInn();
            inn.furnish(1, 5, least);
            inn.come(least, 1, 0);
            inn.come(Math.max(least - 1, 0), 1, 0);
            inn.come(1000, 1, 0);
            Check.equal("just the coins for " + least, 0, inn.best(0));
            Check.equal("one less than " + least, least == 0 ? 0 : -1, inn.best(1));
            Check.equal("1000 coins for " + least, 0, inn.best(2));
        }
    }

    private static void coinsOfNow() {
        GhostInn inn = Inns.haunted(50, 0, 0);
        inn.bid(0, 0, 100);
        Check.equal("with a bid of all coins", 0, inn.best(0));
        inn.night();
        Check.equal("50 coins are left", 0, inn.best(0));
        inn.bid(0, 0, 50);
        inn.night();
        Check.equal("no coins are left", -1, inn.best(0));
    }

    private static void frightened() {
        for (int nerve = 0; nerve < 9; nerve++) {
            Check.equal("a nerve of " + nerve + ", as much", 0, Inns.haunted(0, nerve, nerve).best(0));
            Check.equal("a nerve of " + nerve + ", one more", -1, Inns.haunted(0, nerve + 1, nerve).best(0));
        }
        GhostInn inn = Inns.haunted(0, 0, 90);
        inn.haunt(0, 9, 0, 10);
        Check.equal("90 and 90 of the night", 0, inn.best(0));
        inn.haunt(0, 1, 11, 12);
        Check.equal("90 and 91 of the night", -1, inn.best(0));
    }

    private static void bored() {
        for (int nerve = -9; nerve < 0; nerve++) {
            Check.equal("a nerve of " + nerve + ", as much", 0, Inns.haunted(0, -nerve, nerve).best(0));
            Check.equal("a nerve of " + nerve + ", one less", -1, Inns.haunted(0, -nerve - 1, nerve).best(0));
        }
        GhostInn inn = Inns.haunted(0, 0, -1);
        for (int ghost = 0; ghost < 5; ghost++) {
            inn.haunt(0, 9, 0, 12);
        }
        Check.equal("never frightened", 0, inn.best(0));
    }

    private static void thisNight() {
        GhostInn inn = new GhostInn();
        inn.furnish(1, 6, 0);
        inn.furnish(1, 5, 0);
        inn.haunt(0, 9, 0, 1);
        inn.haunt(1, 8, 0, 1);
        inn.come(100, 1, 8);
        inn.come(100, 1, 9);
        Check.equal("a nerve of 9, the comforts 6 and 5", 0, inn.best(1));
        Check.equal("a nerve of 8", 1, inn.best(0));
        inn.bid(0, 0, 1);
        inn.night();
        Check.equal("the comforts are 5 and 5", 0, inn.best(1));
        Check.equal("the nerve is 7", -1, inn.best(0));
        inn.bid(0, 0, 1);
        inn.night();
        Check.equal("the comforts are 4 and 5", 1, inn.best(1));
    }

    private static void noGuestYet() {
        Refusal.index(GhostInn::new, "best(0) without rooms", inn -> inn.best(0));
        refuses(0, 0);
    }

    private static void guests() {
        for (int guests : new int[] {1, 2, 12}) {
            for (int none : new int[] {-1, guests, Integer.MIN_VALUE, Integer.MAX_VALUE}) {
                refuses(guests, none);
            }
        }
        GhostInn inn = Inns.withRooms(1);
        for (int guest = 0; guest < 12; guest++) {
            inn.come(100, guest == 0 ? 2 : 1, 0);
        }
        Check.equal("the first guest", -1, inn.best(0));
        Check.equal("the last guest", 0, inn.best(11));
    }

    private static void refuses(int guests, int guest) {
        Refusal.index(() -> Inns.withGuests(guests), "best(" + guest + ") of " + guests, inn -> inn.best(guest));
    }

    private static void refusals() {
        refuses(2, 2);
        Refusal.index(Inns::full, "best(12)", inn -> inn.best(12));
        Refusal.index(Inns::full, "best(-1)", inn -> inn.best(-1));
    }
}
