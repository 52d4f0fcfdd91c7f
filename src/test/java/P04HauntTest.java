/** Promise 4: haunt. */
final class P04HauntTest {
    public static void main(String[] args) {
        GhostInn inn = new GhostInn();
        Check.refusesIndex(inn, "haunt without rooms", () -> inn.haunt(0, 1, 0, 1));
        inn.furnish(1, 0, 0);
        inn.furnish(1, 0, 0);
        refusesWrongNumbers(inn);
        Check.equal("the lower edges", 0, inn.haunt(0, 1, 0, 1));
        Check.equal("the upper edges", 1, inn.haunt(1, 9, 11, 12));
        Check.equal("the whole night", 2, inn.haunt(0, 5, 0, 12));
        Check.equal("haunting(0, 0)", 6, inn.haunting(0, 0));
        Check.equal("haunting(1, 11)", 9, inn.haunting(1, 11));
        Check.equal("the fourth", 3, inn.haunt(0, 1, 5, 6));
        Check.equal("the fifth", 4, inn.haunt(0, 1, 5, 6));
        Check.equal("count(3)", 5, inn.count(3));
        Check.refusesState(inn, "the sixth", () -> inn.haunt(0, 1, 0, 1));
        refusesWrongNumbers(inn);
        Check.end();
    }

    private static void refusesWrongNumbers(GhostInn inn) {
        int[][] wrong = {
            {0, 0, 1}, {10, 0, 1}, {1, -1, 1}, {1, 12, 12}, {1, 12, 13}, {1, 5, 5}, {1, 5, 4}, {1, 5, 13},
            {1, 0, 0}, {1, Integer.MIN_VALUE, 1}, {1, Integer.MAX_VALUE, 12}, {1, 0, Integer.MIN_VALUE},
            {1, 0, Integer.MAX_VALUE}, {Integer.MIN_VALUE, 0, 1}, {Integer.MAX_VALUE, 0, 1},
        };
        for (int[] w : wrong) {
            String numbers = w[0] + ", " + w[1] + ", " + w[2] + ")";
            Check.refusesArgument(inn, "haunt(1, " + numbers, () -> inn.haunt(1, w[0], w[1], w[2]));
            Check.refusesIndex(inn, "haunt(2, " + numbers, () -> inn.haunt(2, w[0], w[1], w[2]));
            Check.refusesIndex(inn, "haunt(-1, " + numbers, () -> inn.haunt(-1, w[0], w[1], w[2]));
        }
    }
}
