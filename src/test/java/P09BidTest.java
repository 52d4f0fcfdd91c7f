/** Promise 9: bid. */
final class P09BidTest {
    public static void main(String[] args) {
        GhostInn inn = new GhostInn();
        Check.refusesIndex(inn, "bid without guests and rooms", () -> inn.bid(0, 0, 1));
        inn.furnish(2, 5, 20);
        inn.furnish(6, 5, 100);
        inn.furnish(6, 5, 0);
        inn.come(50, 2, 0);
        inn.come(1000, 3, 0);
        inn.come(0, 1, 0);
        Check.equal("at least the least price", true, inn.bid(0, 0, 20));
        Check.equal("less than the least price", false, inn.bid(0, 0, 19));
        Check.equal("it is written all the same", 19, inn.guest(0, 4));
        Check.equal("count(6)", 1, inn.count(6));
        Check.equal("just the coins", true, inn.bid(0, 0, 50));
        Check.equal("more than the coins", false, inn.bid(0, 0, 51));
        Check.equal("another room in the place of the first", true, inn.bid(0, 2, 1));
        Check.equal("guest(0, 3)", 2, inn.guest(0, 3));
        Check.equal("wins(0, 2)", 0, inn.wins(0, 2));
        Check.equal("count(6)", 1, inn.count(6));
        Check.equal("too few beds", false, inn.bid(1, 0, 200));
        Check.equal("beds enough, the highest price", true, inn.bid(1, 1, 200));
        Check.equal("without coins", false, inn.bid(2, 2, 1));
        Check.equal("another bid does not matter", true, inn.bid(1, 2, 1));

        int[][] none = {{-1, 0}, {3, 0}, {0, -1}, {0, 3}, {Integer.MIN_VALUE, 0}, {0, Integer.MAX_VALUE}};
        int[] prices = {0, 201, -1, 1, 200, Integer.MIN_VALUE, Integer.MAX_VALUE};
        for (int price : prices) {
            for (int[] w : none) {
                Check.refusesIndex(inn, "bid(" + w[0] + ", " + w[1] + ", " + price + ")",
                        () -> inn.bid(w[0], w[1], price));
            }
            if (price < 1 || price > 200) {
                Check.refusesArgument(inn, "bid(0, 0, " + price + ")", () -> inn.bid(0, 0, price));
            }
        }
        Check.end();
    }
}
