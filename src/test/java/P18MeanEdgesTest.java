import java.util.List;

/** Promise 18: the edges that its sentence names. */
final class P18MeanEdgesTest {
    private static final String HEAD = "Promise 18: mean";
    private static final String RETURNS = "Returns all coins of the inn, divided by the nights for which each room was"
            + " let (as room() tells them), of all rooms added; 0 if there are none.";
    private static final String ANSWER = "(double) coins / (double) nightsLet";

    public static void main(String[] args) {
        Sentence.testAll(all());
    }

    static List<Sentence> all() {
        return List.of(
                new Sentence(HEAD, RETURNS, "0 without rooms, and with rooms that were never let",
                        P18MeanEdgesTest::none)
                        .brokenIn("mean", "nightsLet == 0 ? 0.0 : ", "")
                        .brokenIn("mean", "? 0.0", "? 1.0"),
                new Sentence(HEAD, RETURNS, "0 of a night for nothing, then of one more night",
                        P18MeanEdgesTest::nothing)
                        .brokenIn("mean", "nightsLet += ", "nightsLet += rooms.get(room).earned == 0 ? 0 : "),
                new Sentence(HEAD, RETURNS, "not cut: 1 coin of two nights, of three, of seven",
                        P18MeanEdgesTest::notCut)
                        .brokenIn("mean", ANSWER, "(double) (coins / nightsLet)")
                        .brokenIn("mean", ANSWER, "(double) (float) ((float) coins / (float) nightsLet)"),
                new Sentence(HEAD, RETURNS, "of all rooms added, the first and the last one too",
                        P18MeanEdgesTest::allRooms)
                        .brokenIn("mean", "int room = 0", "int room = 1")
                        .brokenIn("mean", "room < rooms.size()", "room < rooms.size() - 1")
                        .brokenIn("mean", "nightsLet += ", "nightsLet = ")
                        .brokenIn("mean", "(double) nightsLet", "(double) nightsGone"),
                new Sentence(HEAD, RETURNS, "all coins: less what was given back", P18MeanEdgesTest::lessGivenBack)
                        .brokenIn("mean", "(double) coins", "(double) (coins + givenBack)"));
    }

    private static void none() {
        GhostInn inn = new GhostInn();
        Check.equal("a new inn", 0.0, inn.mean());
        inn.night();
        Check.equal("a night without rooms", 0.0, inn.mean());
        inn.furnish(1, 5, 10);
        inn.come(100, 1, 0);
        Check.equal("a room that was never let", 0.0, inn.mean());
        inn.bid(0, 0, 50);
        Check.equal("one that would be let now", 0.0, inn.mean());
        inn.leave(0);
        inn.night();
        Check.equal("a night without bids", 0.0, inn.mean());
    }

    private static void nothing() {
        GhostInn inn = Inns.withRooms(1);
        inn.furnish(1, 5, 3);
        inn.come(100, 1, 0);
        inn.bid(0, 0, 1);
        inn.night();
        Check.equal("0 coins of one night", 0.0, inn.mean());
        inn.bid(0, 1, 3);
        inn.night();
        Check.equal("3 coins of two nights", 1.5, inn.mean());
    }

    private static void notCut() {
        GhostInn inn = Inns.withRooms(1);
        inn.furnish(1, 5, 1);
        inn.come(100, 1, 0);
        inn.bid(0, 1, 1);
        inn.night();
        Check.equal("1 coin of one night", 1.0, inn.mean());
        for (int nights = 2; nights <= 7; nights++) {
            inn.bid(0, 0, 1);
            inn.night();
            Check.equal("1 coin of " + nights + " nights", 1.0 / nights, inn.mean());
        }
    }

    private static void allRooms() {
        GhostInn inn = new GhostInn();
        for (int room = 0; room < 10; room++) {
            inn.furnish(1, 5, 1 + room);
            inn.come(100, 1, 0);
            inn.bid(room, room, 50);
        }
        inn.night();
        Check.equal("1 to 10 coins of ten rooms", 5.5, inn.mean());
        inn.bid(0, 9, 50);
        inn.night();
        Check.equal("65 coins of eleven nights", 65.0 / 11.0, inn.mean());
        inn.night();
        Check.equal("a night without bids", 65.0 / 11.0, inn.mean());
    }

    private static void lessGivenBack() {
        GhostInn inn = Inns.haunted(5, 9, 0);
        inn.bid(0, 0, 50);
        inn.night();
        Check.equal("3 of 5 coins are left", 3.0, inn.mean());
    }
}
