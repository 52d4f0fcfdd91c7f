/** Promise 12: wins. */
final class P12WinsTest {
    public static void main(String[] args) {
        GhostInn inn = new GhostInn();
        Check.refusesIndex(inn, "wins(0, 0) without rooms", () -> inn.wins(0, 0));
        inn.furnish(2, 5, 20);
        inn.furnish(2, 5, 0);
        tells(inn, "nobody", 0, -1, 0, 0);
        inn.come(100, 1, 0);
        inn.come(100, 1, 0);
        inn.come(100, 1, 0);
        inn.come(30, 1, 0);
        inn.come(1000, 3, 0);
        inn.bid(1, 0, 60);
        tells(inn, "alone: the least price", 0, 1, 20, 1);
        tells(inn, "another room", 1, -1, 0, 0);
        inn.bid(2, 0, 40);
        tells(inn, "the second greatest price", 0, 1, 40, 2);
        inn.bid(0, 0, 60);
        tells(inn, "of several the smaller number", 0, 0, 60, 3);
        inn.bid(3, 0, 70);
        tells(inn, "without the coins it does not count", 0, 0, 60, 3);
        inn.bid(4, 0, 200);
        tells(inn, "without the beds it does not count", 0, 0, 60, 3);
        inn.bid(2, 0, 61);
        tells(inn, "the greatest price is written again", 0, 2, 60, 3);
        inn.leave(2);
        inn.leave(0);
        inn.bid(3, 0, 19);
        tells(inn, "less than the least price does not count", 0, 1, 20, 1);
        inn.bid(1, 1, 60);
        tells(inn, "gone from this room", 0, -1, 0, 0);
        tells(inn, "alone, for nothing", 1, 1, 0, 1);
        inn.bid(1, 1, 1);
        tells(inn, "the smallest price", 1, 1, 0, 1);
        int[][] wrong = {
            {-1, 0}, {2, 0}, {0, -1}, {0, 3}, {2, 3},
            {Integer.MIN_VALUE, 0}, {Integer.MAX_VALUE, 0}, {0, Integer.MIN_VALUE}, {0, Integer.MAX_VALUE},
        };
        for (int[] w : wrong) {
            Check.refusesIndex(inn, "wins(" + w[0] + ", " + w[1] + ")", () -> inn.wins(w[0], w[1]));
        }
        Check.end();
    }

    private static void tells(GhostInn inn, String when, int room, int... due) {
        for (int what = 0; what < 3; what++) {
            Check.equal(when + ", wins(" + room + ", " + what + ")", due[what], inn.wins(room, what));
        }
    }
}
