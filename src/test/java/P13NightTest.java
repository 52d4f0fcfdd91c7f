/** Promise 13: night. */
final class P13NightTest {
    public static void main(String[] args) {
        emptyInn();
        whoPays();
        frightened();
        bored();
        edgesOfNerve();
        comfortEndsAtZero();
        Check.end();
    }

    private static void emptyInn() {
        GhostInn inn = new GhostInn();
        Check.equal("night() of an empty inn", 0, inn.night());
        Check.equal("the night", 1, inn.count(0));
        inn.night();
        Check.equal("the next night", 2, inn.count(0));
    }

    private static void whoPays() {
        GhostInn inn = new GhostInn();
        inn.furnish(1, 5, 10);
        inn.furnish(1, 5, 30);
        for (int guest = 0; guest < 4; guest++) {
            inn.come(100, 1, 5);
        }
        inn.bid(0, 0, 50);
        inn.bid(1, 0, 70);
        inn.bid(2, 1, 31);
        inn.bid(3, 1, 29);
        Check.equal("the second price and the least price", 50 + 30, inn.night());
        Check.equal("who lost pays nothing", 100, inn.guest(0, 0));
        Check.equal("who won pays the second price", 50, inn.guest(1, 0));
        Check.equal("who is alone pays the least price", 70, inn.guest(2, 0));
        Check.equal("a bid that does not count", 100, inn.guest(3, 0));
        Check.equal("who lost has no night", 0, inn.guest(0, 5));
        Check.equal("who lost has the nerve of before", 5, inn.guest(0, 2));
        Check.equal("who won has more nerve", 6, inn.guest(1, 2));
        Check.equal("all bids are gone", 0, inn.count(6));
        Check.equal("nothing is given back", 0, inn.count(7));
        Check.equal("a night without bids", 80, inn.night());
        Check.equal("the nerve of that night", 6, inn.guest(1, 2));
        Check.equal("nights of the room", 1, inn.room(0, 4));
    }

    private static void frightened() {
        GhostInn inn = new GhostInn();
        inn.furnish(1, 5, 25);
        inn.haunt(0, 3, 0, 2);
        inn.come(100, 1, 5);
        inn.come(100, 1, 6);
        inn.bid(0, 0, 40);
        Check.equal("the half, cut, is given back", 13, inn.night());
        Check.equal("coins", 87, inn.guest(0, 0));
        Check.equal("nerve", 4, inn.guest(0, 2));
        Check.equal("frightened nights", 1, inn.guest(0, 6));
        Check.equal("comfort", 4, inn.room(0, 1));
        Check.equal("earned", 13, inn.room(0, 5));
        Check.equal("given back", 12, inn.count(7));
        inn.bid(1, 0, 40);
        Check.equal("as much nerve as haunting", 38, inn.night());
        Check.equal("more nerve", 7, inn.guest(1, 2));
        Check.equal("not frightened", 0, inn.guest(1, 6));
        Check.equal("the same comfort", 4, inn.room(0, 1));
        Check.equal("given back in all", 12, inn.count(7));
    }

    private static void bored() {
        GhostInn inn = new GhostInn();
        inn.furnish(1, 5, 25);
        inn.haunt(0, 3, 0, 1);
        inn.come(100, 1, -4);
        inn.come(100, 1, -3);
        inn.bid(0, 0, 40);
        Check.equal("the half, cut, is given back", 13, inn.night());
        Check.equal("a seeker's nerve", -4, inn.guest(0, 2));
        Check.equal("bored nights", 1, inn.guest(0, 6));
        Check.equal("comfort is as before", 5, inn.room(0, 1));
        inn.bid(1, 0, 40);
        Check.equal("haunting enough", 38, inn.night());
        Check.equal("a seeker's nerve", -3, inn.guest(1, 2));
        Check.equal("not bored", 0, inn.guest(1, 6));
        for (int ghost = 0; ghost < 4; ghost++) {
            inn.haunt(0, 9, 0, 12);
        }
        inn.bid(0, 0, 40);
        Check.equal("a seeker is never frightened", 63, inn.night());
        Check.equal("bored nights", 1, inn.guest(0, 6));
    }

    private static void edgesOfNerve() {
        GhostInn inn = new GhostInn();
        inn.furnish(1, 5, 10);
        inn.furnish(1, 5, 10);
        inn.haunt(0, 1, 0, 1);
        inn.come(100, 1, 0);
        inn.come(100, 1, 90);
        inn.come(100, 1, 89);
        inn.bid(0, 0, 10);
        inn.bid(1, 1, 10);
        Check.equal("frightened with a nerve of 0", 15, inn.night());
        Check.equal("at least 0", 0, inn.guest(0, 2));
        Check.equal("at most 90", 90, inn.guest(1, 2));
        inn.bid(0, 1, 10);
        inn.bid(2, 0, 10);
        inn.night();
        Check.equal("0 without haunting", 1, inn.guest(0, 2));
        Check.equal("89 and 1", 90, inn.guest(2, 2));
        inn.bid(0, 0, 10);
        inn.night();
        Check.equal("nerve 1, haunting 1", 2, inn.guest(0, 2));
    }

    private static void comfortEndsAtZero() {
        GhostInn inn = new GhostInn();
        inn.furnish(1, 1, 10);
        inn.haunt(0, 9, 0, 12);
        inn.come(100, 1, 50);
        inn.bid(0, 0, 10);
        inn.night();
        Check.equal("comfort", 0, inn.room(0, 1));
        inn.bid(0, 0, 10);
        inn.night();
        Check.equal("comfort at least 0", 0, inn.room(0, 1));
        Check.equal("frightened nights", 2, inn.guest(0, 6));
    }
}
