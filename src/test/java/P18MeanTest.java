/** Promise 18: mean. */
final class P18MeanTest {
    public static void main(String[] args) {
        GhostInn inn = new GhostInn();
        Check.equal("without rooms", 0.0, inn.mean());
        inn.furnish(1, 5, 10);
        inn.furnish(1, 5, 25);
        inn.furnish(1, 5, 0);
        inn.come(1000, 1, 50);
        inn.come(1000, 1, 50);
        inn.come(1000, 1, 0);
        Check.equal("not let", 0.0, inn.mean());
        inn.night();
        Check.equal("a night without bids", 0.0, inn.mean());
        inn.bid(0, 0, 10);
        inn.bid(1, 1, 25);
        Check.equal("bids do not matter", 0.0, inn.mean());
        inn.night();
        Check.equal("35 coins, two rooms' nights", 17.5, inn.mean());
        inn.bid(2, 2, 5);
        inn.night();
        Check.equal("a room let for nothing counts", 35.0 / 3.0, inn.mean());
        inn.haunt(1, 1, 0, 1);
        inn.bid(2, 1, 30);
        inn.night();
        Check.equal("frightened by 1 with a nerve of 1: no", 60.0 / 4.0, inn.mean());
        inn.haunt(1, 9, 0, 1);
        inn.bid(2, 1, 30);
        inn.night();
        Check.equal("less what was given back", 73.0 / 5.0, inn.mean());
        Check.end();
    }
}
