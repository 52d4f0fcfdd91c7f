/** Promise 15: best. */
final class P15BestTest {
    public static void main(String[] args) {
        GhostInn inn = new GhostInn();
        Check.refusesIndex(inn, "best(0) without guests", () -> inn.best(0));
        inn.come(50, 2, 5);
        Check.equal("without rooms", -1, inn.best(0));
        inn.furnish(1, 9, 0);
        Check.equal("too few beds", -1, inn.best(0));
        inn.furnish(2, 9, 51);
        Check.equal("too dear", -1, inn.best(0));
        inn.furnish(2, 0, 50);
        Check.equal("just the beds, just the coins, no comfort", 2, inn.best(0));
        inn.furnish(6, 4, 0);
        Check.equal("the greatest comfort", 3, inn.best(0));
        inn.furnish(6, 4, 0);
        Check.equal("of several the smallest number", 3, inn.best(0));
        inn.haunt(3, 5, 0, 1);
        Check.equal("as much haunting as nerve", 3, inn.best(0));
        inn.haunt(3, 1, 4, 5);
        Check.equal("frightened", 4, inn.best(0));
        inn.come(1000, 2, -7);
        inn.come(1000, 2, -6);
        Check.equal("bored in each room", -1, inn.best(1));
        Check.equal("haunting enough", 3, inn.best(2));
        long before = inn.digest();
        inn.best(0);
        Check.equal("nothing is changed, digest()", before, inn.digest());
        coinsOfNow();
        int[] wrong = {-1, 3, Integer.MIN_VALUE, Integer.MAX_VALUE};
        for (int guest : wrong) {
            Check.refusesIndex(inn, "best(" + guest + ")", () -> inn.best(guest));
        }
        Check.end();
    }

    private static void coinsOfNow() {
        GhostInn inn = new GhostInn();
        inn.furnish(1, 5, 40);
        inn.come(60, 1, 5);
        Check.equal("before the night", 0, inn.best(0));
        inn.bid(0, 0, 60);
        Check.equal("a bid does not bind coins", 0, inn.best(0));
        inn.night();
        Check.equal("20 coins left", -1, inn.best(0));
    }
}
