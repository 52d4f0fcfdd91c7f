/** Promise 6: haunting. */
final class P06HauntingTest {
    public static void main(String[] args) {
        GhostInn inn = new GhostInn();
        Check.refusesIndex(inn, "haunting(0, 0) without rooms", () -> inn.haunting(0, 0));
        inn.furnish(1, 0, 0);
        inn.furnish(1, 0, 0);
        inn.furnish(1, 0, 0);
        Check.equal("without ghosts", 0, inn.haunting(0, 0));
        Check.equal("without ghosts, the whole night", 0, inn.haunting(0, -1));
        inn.door(0, 1);
        inn.haunt(0, 5, 0, 4);
        inn.haunt(1, 3, 2, 12);
        Check.equal("haunting(0, 0)", 5, inn.haunting(0, 0));
        Check.equal("haunting(1, 0)", 0, inn.haunting(1, 0));
        Check.equal("haunting(1, 1)", 5, inn.haunting(1, 1));
        Check.equal("haunting(0, 3), both ghosts apart", 3, inn.haunting(0, 3));
        Check.equal("haunting(1, 3)", 5, inn.haunting(1, 3));
        Check.equal("haunting(1, 4), in bed", 3, inn.haunting(1, 4));
        Check.equal("haunting(0, 11)", 3, inn.haunting(0, 11));
        Check.equal("haunting(0, -1)", 5 + 5 + 5 * 3, inn.haunting(0, -1));
        Check.equal("haunting(1, -1)", 5 + 5 + 5 * 3, inn.haunting(1, -1));
        Check.equal("haunting(2, -1)", 0, inn.haunting(2, -1));
        inn.haunt(1, 9, 3, 4);
        Check.equal("haunting(1, 3), two ghosts together", 14, inn.haunting(1, 3));
        for (int ghost = 0; ghost < 2; ghost++) {
            inn.haunt(2, 9, 0, 12);
        }
        Check.equal("haunting(2, -1), two for the whole night", 2 * 9 * 12, inn.haunting(2, -1));

        int[][] wrong = {
            {-1, 0}, {3, 0}, {3, -1}, {0, -2}, {0, 12}, {3, 12},
            {Integer.MIN_VALUE, 0}, {Integer.MAX_VALUE, 0}, {0, Integer.MIN_VALUE}, {0, Integer.MAX_VALUE},
        };
        for (int[] w : wrong) {
            Check.refusesIndex(inn, "haunting(" + w[0] + ", " + w[1] + ")", () -> inn.haunting(w[0], w[1]));
        }
        Check.end();
    }
}
