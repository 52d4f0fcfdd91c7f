/** Promise 14: count. */
final class P14CountTest {
    public static void main(String[] args) {
        GhostInn inn = new GhostInn();
        inn.furnish(1, 5, 10);
        inn.furnish(1, 5, 20);
        inn.furnish(1, 5, 30);
        inn.door(0, 1);
        inn.door(1, 2);
        inn.door(1, 0);
        inn.haunt(2, 9, 0, 12);
        inn.come(100, 1, 5);
        inn.come(100, 1, 5);
        inn.come(100, 1, 5);
        inn.come(100, 2, 5);
        tells(inn, "no bids", 0, 3, 2, 1, 4, 0, 0, 0, 0);
        inn.bid(0, 0, 15);
        inn.bid(1, 0, 15);
        inn.bid(2, 2, 31);
        inn.bid(3, 1, 99);
        tells(inn, "one bid does not count", 0, 3, 2, 1, 4, 0, 4, 0, 2);
        inn.leave(1);
        tells(inn, "one left", 0, 3, 2, 1, 4, 0, 3, 0, 2);
        inn.leave(0);
        tells(inn, "one room has no bid more", 0, 3, 2, 1, 4, 0, 2, 0, 1);
        inn.bid(0, 2, 40);
        inn.night();
        tells(inn, "31 paid, 15 given back", 1, 3, 2, 1, 4, 16, 0, 15, 0);
        inn.bid(0, 2, 40);
        inn.night();
        tells(inn, "30 paid, 15 given back", 2, 3, 2, 1, 4, 31, 0, 30, 0);
        int[] wrong = {-1, 9, Integer.MIN_VALUE, Integer.MAX_VALUE};
        for (int what : wrong) {
            Check.refusesIndex(inn, "count(" + what + ")", () -> inn.count(what));
        }
        Check.end();
    }

    private static void tells(GhostInn inn, String when, int... due) {
        for (int what = 0; what < 9; what++) {
            Check.equal(when + ", count(" + what + ")", due[what], inn.count(what));
        }
    }
}
