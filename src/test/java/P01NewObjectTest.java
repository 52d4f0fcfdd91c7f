/** Promise 1: a new inn has no rooms, and it is the night 0. */
final class P01NewObjectTest {
    public static void main(String[] args) {
        GhostInn inn = new GhostInn();
        for (int what = 0; what <= 8; what++) {
            Check.equal("count(" + what + ")", 0, inn.count(what));
        }
        Check.refusesIndex(inn, "room(0, 0)", () -> inn.room(0, 0));
        Check.refusesIndex(inn, "at(0, 0)", () -> inn.at(0, 0));
        Check.refusesIndex(inn, "guest(0, 0)", () -> inn.guest(0, 0));
        Check.equal("most()", 0, inn.most());
        Check.equal("mean()", 0.0, inn.mean());

        GhostInn used = new GhostInn();
        used.furnish(1, 1, 1);
        used.night();
        Check.equal("another inn's rooms", 0, inn.count(1));
        Check.equal("another inn's night", 0, inn.count(0));
        Check.end();
    }
}
