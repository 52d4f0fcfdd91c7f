/** Promise 2: furnish. */
final class P02FurnishTest {
    public static void main(String[] args) {
        GhostInn inn = new GhostInn();
        refusesWrongNumbers(inn);
        Check.equal("furnish at the lower edges", 0, inn.furnish(1, 0, 0));
        Check.equal("furnish at the upper edges", 1, inn.furnish(6, 9, 100));
        Check.equal("room(1, 0)", 6, inn.room(1, 0));
        Check.equal("room(1, 1)", 9, inn.room(1, 1));
        Check.equal("room(1, 2)", 100, inn.room(1, 2));
        refusesWrongNumbers(inn);
        for (int number = 2; number < 10; number++) {
            Check.equal("furnish of room " + number, number, inn.furnish(2, 5, 20));
        }
        Check.equal("count(1)", 10, inn.count(1));
        Check.refusesState(inn, "the 11th room", () -> inn.furnish(1, 0, 0));
        refusesWrongNumbers(inn);
        Check.end();
    }

    private static void refusesWrongNumbers(GhostInn inn) {
        int[][] wrong = {
            {0, 5, 50}, {7, 5, 50}, {2, -1, 50}, {2, 10, 50}, {2, 5, -1}, {2, 5, 101},
            {Integer.MIN_VALUE, 5, 50}, {Integer.MAX_VALUE, 5, 50}, {2, Integer.MIN_VALUE, 50},
            {2, Integer.MAX_VALUE, 50}, {2, 5, Integer.MIN_VALUE}, {2, 5, Integer.MAX_VALUE},
        };
        for (int[] w : wrong) {
            Check.refusesArgument(inn, "furnish(" + w[0] + ", " + w[1] + ", " + w[2] + ")",
                    () -> inn.furnish(w[0], w[1], w[2]));
        }
    }
}
