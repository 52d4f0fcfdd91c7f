/** Promise 11: guest. */
final class P11GuestTest {
    public static void main(String[] args) {
        GhostInn inn = new GhostInn();
        Check.refusesIndex(inn, "guest(0, 0) without guests", () -> inn.guest(0, 0));
        inn.furnish(4, 5, 21);
        inn.furnish(4, 5, 21);
        inn.haunt(0, 1, 0, 2);
        inn.come(100, 3, 1);
        inn.come(100, 1, -3);
        tells(inn, "a new guest", 0, 100, 3, 1, -1, 0, 0, 0);
        inn.bid(0, 0, 30);
        tells(inn, "with a bid for room 0", 0, 100, 3, 1, 0, 30, 0, 0);
        inn.bid(1, 1, 99);
        tells(inn, "with a bid for room 1", 1, 100, 1, -3, 1, 99, 0, 0);
        inn.night();
        tells(inn, "frightened", 0, 100 - 21 + 10, 3, 0, -1, 0, 1, 1);
        tells(inn, "bored", 1, 100 - 21 + 10, 1, -3, -1, 0, 1, 1);
        inn.bid(0, 1, 30);
        inn.bid(1, 1, 29);
        inn.night();
        tells(inn, "not frightened", 0, 89 - 29, 3, 1, -1, 0, 2, 1);
        tells(inn, "without a room", 1, 89, 1, -3, -1, 0, 1, 1);
        int[][] wrong = {
            {-1, 0}, {2, 0}, {0, -1}, {0, 7}, {2, 7},
            {Integer.MIN_VALUE, 0}, {Integer.MAX_VALUE, 0}, {0, Integer.MIN_VALUE}, {0, Integer.MAX_VALUE},
        };
        for (int[] w : wrong) {
            Check.refusesIndex(inn, "guest(" + w[0] + ", " + w[1] + ")", () -> inn.guest(w[0], w[1]));
        }
        Check.end();
    }

    private static void tells(GhostInn inn, String when, int guest, int... due) {
        for (int what = 0; what < 7; what++) {
            Check.equal(when + ", guest(" + guest + ", " + what + ")", due[what], inn.guest(guest, what));
        }
    }
}
