/** Promise 5: at. */
final class P05AtTest {
    public static void main(String[] args) {
        GhostInn inn = new GhostInn();
        for (int room = 0; room < 6; room++) {
            inn.furnish(1, 0, 0);
        }
        Check.refusesIndex(inn, "at(0, 0) without ghosts", () -> inn.at(0, 0));
        inn.haunt(2, 1, 3, 8);
        ways(inn, "without doors it stays", 0, -1, -1, -1, 2, 2, 2, 2, 2, -1, -1, -1, -1);
        inn.door(2, 5);
        ways(inn, "one door", 0, -1, -1, -1, 2, 5, 2, 5, 2, -1, -1, -1, -1);
        inn.door(2, 4);
        ways(inn, "the smallest of the greater ones", 0, -1, -1, -1, 2, 4, 2, 4, 2, -1, -1, -1, -1);
        inn.door(4, 0);
        inn.door(4, 1);
        ways(inn, "none greater: the smallest", 0, -1, -1, -1, 2, 4, 0, 4, 0, -1, -1, -1, -1);
        inn.door(0, 3);
        inn.haunt(3, 1, 0, 12);
        ways(inn, "the new door leads on", 0, -1, -1, -1, 2, 4, 0, 3, 0, -1, -1, -1, -1);
        ways(inn, "the whole night", 1, 3, 0, 3, 0, 3, 0, 3, 0, 3, 0, 3, 0);
        inn.haunt(5, 1, 11, 12);
        ways(inn, "the last hour", 2, -1, -1, -1, -1, -1, -1, -1, -1, -1, -1, -1, 5);
        inn.haunt(5, 1, 0, 1);
        ways(inn, "the first hour", 3, 5, -1, -1, -1, -1, -1, -1, -1, -1, -1, -1, -1);
        inn.night();
        ways(inn, "each night is alike", 0, -1, -1, -1, 2, 4, 0, 3, 0, -1, -1, -1, -1);

        int[][] wrong = {
            {-1, 0}, {4, 0}, {0, -1}, {0, 12}, {4, 12}, {-1, -1},
            {Integer.MIN_VALUE, 0}, {Integer.MAX_VALUE, 0}, {0, Integer.MIN_VALUE}, {0, Integer.MAX_VALUE},
        };
        for (int[] w : wrong) {
            Check.refusesIndex(inn, "at(" + w[0] + ", " + w[1] + ")", () -> inn.at(w[0], w[1]));
        }
        Check.end();
    }

    private static void ways(GhostInn inn, String what, int ghost, int... due) {
        for (int hour = 0; hour < 12; hour++) {
            Check.equal(what + ", at(" + ghost + ", " + hour + ")", due[hour], inn.at(ghost, hour));
        }
    }
}
