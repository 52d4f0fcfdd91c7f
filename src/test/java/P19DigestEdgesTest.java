import java.math.BigInteger;
import java.util.List;
import java.util.function.Supplier;

/** Promise 19: the edges that its sentence names. */
final class P19DigestEdgesTest {
    private static final String HEAD = "Promise 19: digest";
    private static final String NUMBER = "A number d starts with 773; for each of the following numbers x, d becomes"
            + " d * 31 + x, which wraps around as a 64-bit integer: what count() tells, in its order; for each room"
            + " what room() and wins() tell, in their order, and its haunting in the whole night; for each ghost its"
            + " place in each hour; for each guest what guest() tells, in its order.";
    private static final BigInteger WRAP = BigInteger.ONE.shiftLeft(64);

    public static void main(String[] args) {
        Sentence.testAll(all());
    }

    static List<Sentence> all() {
        return List.of(
                new Sentence(HEAD, NUMBER, "with nothing there yet, d is 773 * 31 to the power of 9",
                        P19DigestEdgesTest::nothingThere)
                        .brokenIn("digest", "long d = 773", "long d = 772")
                        .brokenIn("digest", "d * 31 + count(what)", "d * 37 + count(what)")
                        .brokenIn("digest", "what < COUNT_FIGURES", "what < COUNT_FIGURES - 1"),
                new Sentence(HEAD, NUMBER, "with the smallest number of each, one room, one ghost, one guest",
                        P19DigestEdgesTest::oneOfEach)
                        .brokenIn("digest", "int room = 0", "int room = 1")
                        .brokenIn("digest", "int ghost = 0", "int ghost = 1")
                        .brokenIn("digest", "int guest = 0", "int guest = 1")
                        .brokenIn("digestRoom", "what < ROOM_FIGURES", "what < ROOM_FIGURES - 1")
                        .brokenIn("digestRoom", "what < WINS_FIGURES", "what < WINS_FIGURES - 1")
                        .brokenIn("digest", "what < GUEST_FIGURES", "what < GUEST_FIGURES - 1")
                        .brokenIn("digestRoom", "haunting(room, -1)", "haunting(room, 0)"),
                new Sentence(HEAD, NUMBER, "with every place taken, up to the last of each",
                        P19DigestEdgesTest::everyPlace)
                        .brokenIn("digest", "room < rooms.size()", "room < rooms.size() - 1")
                        .brokenIn("digest", "ghost < ghosts.size()", "ghost < ghosts.size() - 1")
                        .brokenIn("digest", "guest < guests.size()", "guest < guests.size() - 1")
                        .brokenIn("digest", "hour < HOURS", "hour < HOURS - 1"),
                new Sentence(HEAD, NUMBER, "wraps around at 64 bits, to less than 0 as well", P19DigestEdgesTest::wraps)
                        .brokenIn("digest", "d = digestRoom(d, room)", "d = digestRoom((int) d, room)")
                        .brokenIn("digest", "d = digestRoom(d, room)", "d = digestRoom(d & Long.MAX_VALUE, room)")
                        .brokenIn("digest", "d = digestRoom(d, room)", "d = digestRoom(Math.abs(d), room)"),
                new Sentence(HEAD, NUMBER, "numbers less than 0: no winner, no bid, in bed, one who seeks ghosts",
                        P19DigestEdgesTest::lessThanZero)
                        .brokenIn("digest", "d * 31 + at(ghost, hour)", "d * 31 + Math.max(at(ghost, hour), 0)")
                        .brokenIn("digest", "d * 31 + guest(guest, what)", "d * 31 + Math.max(guest(guest, what), 0)")
                        .brokenIn("digestRoom", "d * 31 + wins(room, what)", "d * 31 + Math.max(wins(room, what), 0)"),
                new Sentence(HEAD, NUMBER, "twice the same, and nothing is changed", P19DigestEdgesTest::nothingChanged)
                        .brokenIn("digest", "return d;", "nightsGone++;\nreturn d;")
                        .brokenIn("digest", "return d;", "if (isGuest(0)) {\nguests.get(0).dropBid();\n}\nreturn d;"));
    }

    private static void nothingThere() {
        long due = 773L * 26439622160671L;
        Check.equal("a new inn", due, new GhostInn().digest());
        GhostInn inn = new GhostInn();
        inn.night();
        Check.equal("the first number counts 31 to the power of 8", due + 852891037441L, inn.digest());
    }

    private static void oneOfEach() {
        GhostInn inn = Inns.haunted(20, 9, 5);
        isAsTold("one of each", inn);
        inn.bid(0, 0, 50);
        isAsTold("with a bid", inn);
        inn.night();
        isAsTold("behind a night", inn);
        GhostInn wanders = Inns.haunted(20, 0, 5);
        wanders.haunt(0, 9, 3, 9);
        isAsTold("with a ghost of the later hours", wanders);
    }

    private static void everyPlace() {
        isAsTold("a full inn", Inns.full());
        GhostInn inn = Inns.withDoors(20);
        for (int ghost = 0; ghost < 5; ghost++) {
            inn.haunt(9 - ghost, 9, 0, 12);
        }
        for (int guest = 0; guest < 12; guest++) {
            inn.come(1000, 1, 90);
        }
        isAsTold("a full inn without bids", inn);
    }

    private static void wraps() {
        boolean above = false;
        boolean below = false;
        for (Supplier<GhostInn> made : List.<Supplier<GhostInn>>of(() -> Inns.withRooms(1), () -> Inns.withRooms(2),
                () -> Inns.withGuests(1), () -> Inns.withGhosts(1), Inns::some, Inns::full)) {
            GhostInn inn = made.get();
            isAsTold("far beyond 64 bits", inn);
            above |= inn.digest() > 0;
            below |= inn.digest() < 0;
        }
        Check.equal("some are greater than 0, some are less", true, above && below);
    }

    private static void lessThanZero() {
        GhostInn inn = Inns.withRooms(1);
        isAsTold("a room without a winner", inn);
        inn.come(100, 1, -9);
        isAsTold("one who seeks ghosts, without a bid", inn);
        inn.haunt(0, 1, 11, 12);
        isAsTold("a ghost in bed until the last hour", inn);
    }

    private static void nothingChanged() {
        for (Supplier<GhostInn> made : Inns.each()) {
            GhostInn inn = made.get();
            GhostInn twin = made.get();
            long first = inn.digest();
            Check.equal("once more", first, inn.digest());
            Check.equal("all that it tells", Look.at(twin), Look.at(inn));
            Check.equal("all that it tells later", Look.later(twin), Look.later(inn));
        }
    }

    private static void isAsTold(String when, GhostInn inn) {
        BigInteger d = told(inn).mod(WRAP);
        Check.equal(when + ", digest()", d.longValue(), inn.digest());
    }

    /** The number d without wrapping around, in at most 264 calls. */
    private static BigInteger told(GhostInn inn) {
        BigInteger d = BigInteger.valueOf(773);
        int[] counts = new int[9];
        for (int what = 0; what < 9; what++) {
            counts[what] = inn.count(what);
            d = next(d, counts[what]);
        }
        for (int room = 0; room < counts[1]; room++) {
            for (int what = 0; what < 6; what++) {
                d = next(d, inn.room(room, what));
            }
            for (int what = 0; what < 3; what++) {
                d = next(d, inn.wins(room, what));
            }
            d = next(d, inn.haunting(room, -1));
        }
        for (int ghost = 0; ghost < counts[3]; ghost++) {
            for (int hour = 0; hour < 12; hour++) {
                d = next(d, inn.at(ghost, hour));
            }
        }
        for (int guest = 0; guest < counts[4]; guest++) {
            for (int what = 0; what < 7; what++) {
                d = next(d, inn.guest(guest, what));
            }
        }
        return d;
    }

    private static BigInteger next(BigInteger d, int x) {
        return d.multiply(BigInteger.valueOf(31)).add(BigInteger.valueOf(x));
    }
}
