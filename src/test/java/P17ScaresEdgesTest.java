import java.util.List;

/** Promise 17: the edges that its sentences name. */
final class P17ScaresEdgesTest {
    private static final String HEAD = "Promise 17: scares";
    private static final String RETURNS = "Returns how much less would be given back in this night by the bids now,"
            + " if this ghost slept (less than 0, if more; nothing is changed).";
    private static final String INDEX = "Throws `IndexOutOfBoundsException` if there is no such ghost";
    private static final String ANSWER = "return backTonight(NONE) - backTonight(ghost)";

    public static void main(String[] args) {
        Sentence.testAll(all());
    }

    static List<Sentence> all() {
        return List.of(
                new Sentence(HEAD, RETURNS, "0 without guests, without bids, in another room",
                        P17ScaresEdgesTest::nothing)
                        .brokenIn("backTonight", "int back = 0", "int back = sleeper == NONE ? 1 : 0")
                        .brokenIn("backTonight", "hauntingOfNight(room, sleeper)", "hauntingOfNight(0, sleeper)"),
                new Sentence(HEAD, RETURNS, "frightened just by this ghost, or all the same",
                        P17ScaresEdgesTest::frightened)
                        .brokenIn("scares", ANSWER, "return backTonight(NONE)")
                        .brokenIn("hauntingInHour", "number != sleeper", "number < sleeper || sleeper == NONE"),
                new Sentence(HEAD, RETURNS, "less than 0: bored without this ghost", P17ScaresEdgesTest::bored)
                        .brokenIn("scares", ANSWER, "return Math.max(backTonight(NONE) - backTonight(ghost), 0)")
                        .brokenIn("scares", ANSWER, "return Math.abs(backTonight(NONE) - backTonight(ghost))"),
                new Sentence(HEAD, RETURNS, "0, 1, 2 and 3 paid: the half, cut", P17ScaresEdgesTest::halves)
                        .brokenIn("backTonight", "dueFor(room, winner) / 2", "(dueFor(room, winner) + 1) / 2")
                        .brokenIn("backTonight", "dueFor(room, winner) / 2", "dueFor(room, winner)"),
                new Sentence(HEAD, RETURNS, "in the first and the last room, of all rooms added",
                        P17ScaresEdgesTest::allRooms)
                        .brokenIn("backTonight", "int room = 0", "int room = 1")
                        .brokenIn("backTonight", "room < rooms.size()", "room < rooms.size() - 1")
                        .brokenIn("backTonight", "back += ", "back = "),
                new Sentence(HEAD, RETURNS, "by the bids now: the winner's alone", P17ScaresEdgesTest::winnersAlone)
                        .brokenIn("backTonight", "int winner = winnerOf(room)", "int winner = 0")
                        .brokenIn("leave", "bidder.dropBid();", ""),
                new Sentence(HEAD, RETURNS, "nothing is changed, and twice the same",
                        P17ScaresEdgesTest::nothingChanged)
                        .brokenIn("scares", "return backTonight", "nightsGone++;\nreturn backTonight")
                        .brokenIn("scares", "return backTonight", "ghosts.get(ghost).setPlace(11, NONE);\n"
                                + "return backTonight"),
                new Sentence(HEAD, INDEX, "no ghost yet", P17ScaresEdgesTest::noGhostYet)
                        .brokenIn("scares", "!isGhost(ghost)", "ghost != 0 && !isGhost(ghost)"),
                new Sentence(HEAD, INDEX, "the first and the last ghost, but not those beside them",
                        P17ScaresEdgesTest::ghosts)
                        .brokenIn("scares", "!isGhost(ghost)", "ghost < 0")
                        .brokenIn("scares", "!isGhost(ghost)", "ghost >= ghosts.size()")
                        .brokenIn("scares", "!isGhost(ghost)", "!isGhost(ghost) || ghost == 0")
                        .brokenIn("scares", "!isGhost(ghost)", "!isGhost(ghost) || ghost == 4"),
                new Sentence(Terms.HEAD, Terms.CHANGES_NOTHING, "scares", P17ScaresEdgesTest::refusals)
                        .brokenAheadOf("scares", "throw new IndexOutOfBoundsException"));
    }

    private static void nothing() {
        Check.equal("without guests", 0, Inns.withGhosts(2).scares(0));
        GhostInn inn = Inns.haunted(40, 9, 0);
        inn.furnish(1, 5, 40);
        Check.equal("without bids", 0, inn.scares(0));
        inn.bid(0, 0, 101);
        Check.equal("with a bid that does not count", 0, inn.scares(0));
        inn.bid(0, 1, 100);
        Check.equal("in another room", 0, inn.scares(0));
        inn.bid(0, 0, 100);
        Check.equal("with a bid that counts", 20, inn.scares(0));
    }

    private static void frightened() {
        GhostInn inn = Inns.haunted(40, 0, 5);
        inn.haunt(0, 5, 0, 1);
        inn.bid(0, 0, 100);
        Check.equal("not frightened", 0, inn.scares(0));
        inn.haunt(0, 1, 0, 1);
        Check.equal("6 of both, 1 without it", 20, inn.scares(0));
        Check.equal("6 of both, 5 without it", 20, inn.scares(1));
        inn.haunt(0, 1, 3, 4);
        Check.equal("7 of all, 2 without it", 20, inn.scares(0));
        Check.equal("7 of all, 6 without it", 0, inn.scares(1));
        Check.equal("7 of all, 6 without it", 0, inn.scares(2));
    }

    private static void bored() {
        GhostInn inn = Inns.haunted(40, 0, -5);
        inn.haunt(0, 4, 0, 1);
        inn.bid(0, 0, 100);
        Check.equal("bored all the same", 0, inn.scares(0));
        inn.haunt(0, 1, 0, 1);
        Check.equal("5 of both, 1 without it", -20, inn.scares(0));
        Check.equal("5 of both, 4 without it", -20, inn.scares(1));
        inn.haunt(0, 1, 3, 4);
        Check.equal("6 of all, 2 without it", -20, inn.scares(0));
        Check.equal("6 of all, 5 without it", 0, inn.scares(1));
    }

    private static void halves() {
        int[] due = {0, 0, 1, 1};
        for (int paid = 0; paid <= 3; paid++) {
            GhostInn inn = Inns.haunted(paid, 1, 0);
            inn.bid(0, 0, 100);
            Check.equal(paid + " paid, frightened", due[paid], inn.scares(0));
            GhostInn seeks = Inns.haunted(paid, 1, -1);
            seeks.bid(0, 0, 100);
            Check.equal(paid + " paid, bored without it", -due[paid], seeks.scares(0));
        }
    }

    private static void allRooms() {
        GhostInn inn = new GhostInn();
        for (int room = 0; room < 10; room++) {
            inn.furnish(1, 5, 10 + 2 * room);
            inn.come(100, 1, 0);
            inn.bid(room, room, 100);
        }
        for (int room = 0; room < 9; room++) {
            inn.door(room, room + 1);
        }
        inn.haunt(0, 1, 0, 10);
        Check.equal("through all ten rooms", 5 + 6 + 7 + 8 + 9 + 10 + 11 + 12 + 13 + 14, inn.scares(0));
        inn.haunt(0, 1, 0, 1);
        Check.equal("room 0 is haunted without it too", 95 - 5, inn.scares(0));
        inn.haunt(9, 1, 0, 1);
        Check.equal("room 9 is haunted without it too", 95 - 5 - 14, inn.scares(0));
    }

    private static void winnersAlone() {
        GhostInn inn = Inns.haunted(40, 5, 0);
        inn.come(100, 1, 90);
        inn.come(100, 1, 0);
        inn.bid(0, 0, 80);
        Check.equal("who is frightened wins", 20, inn.scares(0));
        inn.bid(1, 0, 90);
        Check.equal("who is not wins", 0, inn.scares(0));
        inn.bid(2, 0, 100);
        Check.equal("who is frightened wins, and pays 90", 45, inn.scares(0));
        inn.leave(2);
        Check.equal("this one has left", 0, inn.scares(0));
        inn.leave(1);
        Check.equal("the other one has left too", 20, inn.scares(0));
        inn.night();
        Check.equal("behind the night", 0, inn.scares(0));
    }

    private static void nothingChanged() {
        for (int n = 1; n < Inns.each().size(); n++) {
            GhostInn inn = Inns.each().get(n).get();
            GhostInn twin = Inns.each().get(n).get();
            int first = inn.scares(1);
            Check.equal("once more", first, inn.scares(1));
            Check.equal("all that it tells", Look.at(twin), Look.at(inn));
            Check.equal("all that it tells later", Look.later(twin), Look.later(inn));
        }
    }

    private static void noGhostYet() {
        Refusal.index(GhostInn::new, "scares(0) without rooms", inn -> inn.scares(0));
        refuses(0, 0);
    }

    private static void ghosts() {
        for (int ghosts : new int[] {1, 2, 5}) {
            for (int none : new int[] {-1, ghosts, Integer.MIN_VALUE, Integer.MAX_VALUE}) {
                refuses(ghosts, none);
            }
        }
        int[] frights = {4, 1, 1, 1, 3};
        GhostInn inn = Inns.haunted(40, 0, 7);
        for (int fright : frights) {
            inn.haunt(0, fright, 0, 1);
        }
        inn.bid(0, 0, 100);
        Check.equal("the first ghost", 20, inn.scares(0));
        Check.equal("one of fright 1 does not matter", 0, inn.scares(1));
        Check.equal("the last ghost", 20, inn.scares(4));
    }

    private static void refuses(int ghosts, int ghost) {
        Refusal.index(() -> Inns.withGhosts(ghosts), "scares(" + ghost + ") of " + ghosts, inn -> inn.scares(ghost));
    }

    private static void refusals() {
        refuses(2, 2);
        Refusal.index(Inns::full, "scares(5)", inn -> inn.scares(5));
        Refusal.index(Inns::full, "scares(-1)", inn -> inn.scares(-1));
    }
}
