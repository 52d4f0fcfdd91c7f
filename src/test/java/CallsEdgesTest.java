import java.util.List;

/** The number of calls that the document names, and what nights without end would bring. */
final class CallsEdgesTest {
    private static final String HEAD = "What it is";
    private static final String CALLS = "An object is used for at most 512 calls after it has been made;"
            + " what later calls answer is free.";

    public static void main(String[] args) {
        Sentence.testAll(all());
    }

    static List<Sentence> all() {
        return List.of(
                new Sentence(HEAD, CALLS, "the 512th call answers as the first one", CallsEdgesTest::lastCall)
                        .brokenIn("night", "nightsGone++", "nightsGone = Math.min(nightsGone + 1, 510)"),
                new Sentence(HEAD, CALLS, "254 nights in one room, from a nerve of 0 to 90", CallsEdgesTest::longStay)
                        .brokenIn("wasLet", "nightsLet++", "nightsLet = (nightsLet + 1) % 254")
                        .brokenIn("stayed", "nightsStayed++", "nightsStayed = (nightsStayed + 1) % 254")
                        .brokenIn("stayed", "MOST_NERVE", "MOST_NERVE + 1"));
    }

    private static void lastCall() {
        GhostInn inn = new GhostInn();
        for (int call = 1; call <= 511; call++) {
            inn.night();
        }
        Check.equal("count(0) as the 512th call", 511, inn.count(0));
    }

    private static void longStay() {
        Check.equal("nights of the room", 254, after511Calls().room(0, 4));
        Check.equal("nights of the guest", 254, after511Calls().guest(0, 5));
        Check.equal("frightened nights", 0, after511Calls().guest(0, 6));
        Check.equal("nerve", 90, after511Calls().guest(0, 2));
    }

    /** Two rooms are furnished, a guest comes, and wins room 0 for nothing in each of 254 nights. */
    private static GhostInn after511Calls() {
        GhostInn inn = Inns.withGuests(1);
        for (int night = 0; night < 254; night++) {
            inn.bid(0, 0, 100);
            inn.night();
        }
        return inn;
    }
}
