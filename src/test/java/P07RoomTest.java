/** Promise 7: room. */
final class P07RoomTest {
    public static void main(String[] args) {
        GhostInn inn = new GhostInn();
        Check.refusesIndex(inn, "room(0, 0) without rooms", () -> inn.room(0, 0));
        inn.furnish(2, 5, 20);
        inn.furnish(3, 0, 0);
        inn.furnish(4, 7, 10);
        tells(inn, "a new room", 0, 2, 5, 20, 0, 0, 0);
        inn.door(0, 1);
        inn.door(2, 0);
        tells(inn, "with doors", 0, 2, 5, 20, 2, 0, 0);
        tells(inn, "with a door", 1, 3, 0, 0, 1, 0, 0);

        inn.haunt(0, 1, 0, 1);
        inn.come(100, 1, 0);
        inn.come(100, 1, 1);
        inn.bid(0, 0, 30);
        inn.night();
        tells(inn, "frightened: half of it back, comfort less", 0, 2, 4, 20, 2, 1, 10);
        inn.bid(1, 0, 31);
        inn.bid(0, 0, 27);
        inn.night();
        tells(inn, "not frightened: all of it, comfort as it was", 0, 2, 4, 20, 2, 2, 37);
        inn.night();
        tells(inn, "not let", 0, 2, 4, 20, 2, 2, 37);
        inn.bid(0, 1, 5);
        inn.night();
        tells(inn, "let for nothing", 1, 3, 0, 0, 1, 1, 0);

        int[][] wrong = {
            {-1, 0}, {3, 0}, {0, -1}, {0, 6}, {3, 6},
            {Integer.MIN_VALUE, 0}, {Integer.MAX_VALUE, 0}, {0, Integer.MIN_VALUE}, {0, Integer.MAX_VALUE},
        };
        for (int[] w : wrong) {
            Check.refusesIndex(inn, "room(" + w[0] + ", " + w[1] + ")", () -> inn.room(w[0], w[1]));
        }
        Check.end();
    }

    private static void tells(GhostInn inn, String when, int room, int... due) {
        for (int what = 0; what < 6; what++) {
            Check.equal(when + ", room(" + room + ", " + what + ")", due[what], inn.room(room, what));
        }
    }
}
