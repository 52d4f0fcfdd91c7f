import java.util.List;

/** Promise 1: the edges that its sentence names. */
final class P01NewObjectEdgesTest {
    private static final String HEAD = "Promise 1: A new object";
    private static final String CREATES = "Creates an inn without rooms, in the night 0.";
    private static final String MAKER = "public GhostInn() {";

    public static void main(String[] args) {
        Sentence.testAll(all());
    }

    static List<Sentence> all() {
        return List.of(
                new Sentence(HEAD, CREATES, "no room is there, and the first one gets the number 0",
                        P01NewObjectEdgesTest::withoutRooms)
                        .brokenIn("GhostInn", MAKER, MAKER + "\nrooms.add(new Room(1, 0, 0));"),
                new Sentence(HEAD, CREATES, "the night 0, and 1 behind the first one", P01NewObjectEdgesTest::nightZero)
                        .brokenIn("GhostInn", MAKER, MAKER + "\nnightsGone = 1;")
                        .brokenIn("GhostInn", MAKER, MAKER + "\nnightsGone = -1;"),
                new Sentence(HEAD, CREATES, "nothing else is there either", P01NewObjectEdgesTest::nothingElse)
                        .brokenIn("GhostInn", MAKER, MAKER + "\ndoors = 1;")
                        .brokenIn("GhostInn", MAKER, MAKER + "\ncoins = 1;")
                        .brokenIn("GhostInn", MAKER, MAKER + "\ngivenBack = 1;")
                        .brokenIn("GhostInn", MAKER, MAKER + "\nguests.add(new Guest(1, 1, 1));")
                        .brokenIn("GhostInn", MAKER, MAKER + "\nghosts.add(new Ghost(0, 1, 0, 1));"),
                new Sentence(HEAD, CREATES, "another inn, however full, does not matter",
                        P01NewObjectEdgesTest::anotherInn)
                        .brokenIn("GhostInn", MAKER, "private static final ArrayList<Room> SEEN = new ArrayList<>();\n"
                                + MAKER + "\nif (SEEN.size() > 0) {\nnightsGone = 1;\n}\nSEEN.add(null);"));
    }

    private static void withoutRooms() {
        Check.equal("count(1)", 0, new GhostInn().count(1));
        Refusal.index(GhostInn::new, "room(0, 0)", inn -> inn.room(0, 0));
        Check.equal("the first room's number", 0, new GhostInn().furnish(1, 0, 0));
    }

    private static void nightZero() {
        GhostInn inn = new GhostInn();
        Check.equal("count(0)", 0, inn.count(0));
        inn.night();
        Check.equal("count(0) behind a night", 1, inn.count(0));
    }

    private static void nothingElse() {
        GhostInn inn = new GhostInn();
        for (int what = 2; what <= 8; what++) {
            Check.equal("count(" + what + ")", 0, inn.count(what));
        }
    }

    private static void anotherInn() {
        String before = Look.at(new GhostInn());
        Inns.full();
        Check.equal("a new inn beside a full one", before, Look.at(new GhostInn()));
        Check.equal("a room in a new inn", 0, new GhostInn().furnish(1, 0, 0));
    }
}
