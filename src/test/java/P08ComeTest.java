/** Promise 8: come. */
final class P08ComeTest {
    public static void main(String[] args) {
        GhostInn inn = new GhostInn();
        refusesWrongNumbers(inn);
        Check.equal("come at the lower edges", 0, inn.come(0, 1, -9));
        Check.equal("come at the upper edges", 1, inn.come(1000, 6, 90));
        Check.equal("guest(1, 0)", 1000, inn.guest(1, 0));
        Check.equal("guest(1, 1)", 6, inn.guest(1, 1));
        Check.equal("guest(1, 2)", 90, inn.guest(1, 2));
        Check.equal("guest(0, 2)", -9, inn.guest(0, 2));
        refusesWrongNumbers(inn);
        for (int number = 2; number < 12; number++) {
            Check.equal("come of guest " + number, number, inn.come(100, 2, 0));
        }
        Check.equal("count(4)", 12, inn.count(4));
        Check.refusesState(inn, "the 13th guest", () -> inn.come(0, 1, 0));
        refusesWrongNumbers(inn);
        Check.end();
    }

    private static void refusesWrongNumbers(GhostInn inn) {
        int[][] wrong = {
            {-1, 1, 0}, {1001, 1, 0}, {100, 0, 0}, {100, 7, 0}, {100, 1, -10}, {100, 1, 91},
            {Integer.MIN_VALUE, 1, 0}, {Integer.MAX_VALUE, 1, 0}, {100, Integer.MIN_VALUE, 0},
            {100, Integer.MAX_VALUE, 0}, {100, 1, Integer.MIN_VALUE}, {100, 1, Integer.MAX_VALUE},
        };
        for (int[] w : wrong) {
            Check.refusesArgument(inn, "come(" + w[0] + ", " + w[1] + ", " + w[2] + ")",
                    () -> inn.come(w[0], w[1], w[2]));
        }
    }
}
