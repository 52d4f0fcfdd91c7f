/** Promise 17: scares. */
final class P17ScaresTest {
    public static void main(String[] args) {
        GhostInn inn = new GhostInn();
        Check.refusesIndex(inn, "scares(0) without ghosts", () -> inn.scares(0));
        inn.furnish(1, 5, 21);
        inn.furnish(1, 5, 31);
        inn.furnish(1, 5, 0);
        inn.haunt(0, 4, 0, 1);
        inn.haunt(0, 2, 0, 1);
        inn.haunt(1, 3, 0, 1);
        inn.come(100, 1, 5);
        inn.come(100, 1, -3);
        inn.come(100, 1, 0);
        Check.equal("without bids", 0, inn.scares(0));
        inn.bid(0, 0, 40);
        Check.equal("without ghost 0 not frightened", 10, inn.scares(0));
        Check.equal("without ghost 1 not frightened", 10, inn.scares(1));
        Check.equal("ghost 2 is elsewhere", 0, inn.scares(2));
        inn.bid(1, 1, 40);
        Check.equal("without ghost 2 bored", -15, inn.scares(2));
        Check.equal("without ghost 0 still not frightened", 10, inn.scares(0));
        inn.bid(2, 1, 90);
        Check.equal("the winner is frightened by ghost 2, 40 paid", 20, inn.scares(2));
        inn.bid(0, 2, 40);
        Check.equal("no bid more where ghost 0 is", 0, inn.scares(0));
        inn.bid(1, 0, 40);
        inn.haunt(0, 9, 0, 12);
        Check.equal("enough ghosts for a seeker", 0, inn.scares(0));
        long before = inn.digest();
        inn.scares(2);
        Check.equal("nothing is changed, digest()", before, inn.digest());
        manyRooms();
        int[] wrong = {-1, 4, Integer.MIN_VALUE, Integer.MAX_VALUE};
        for (int ghost : wrong) {
            Check.refusesIndex(inn, "scares(" + ghost + ")", () -> inn.scares(ghost));
        }
        Check.end();
    }

    private static void manyRooms() {
        GhostInn inn = new GhostInn();
        inn.furnish(1, 5, 10);
        inn.furnish(1, 5, 20);
        inn.door(0, 1);
        inn.haunt(0, 1, 0, 4);
        inn.come(100, 1, 1);
        inn.come(100, 1, -2);
        inn.bid(0, 0, 10);
        inn.bid(1, 1, 20);
        Check.equal("5 less, 10 more", -5, inn.scares(0));
    }
}
