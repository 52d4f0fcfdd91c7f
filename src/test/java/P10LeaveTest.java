/** Promise 10: leave. */
final class P10LeaveTest {
    public static void main(String[] args) {
        GhostInn inn = new GhostInn();
        Check.refusesIndex(inn, "leave(0) without guests", () -> inn.leave(0));
        inn.furnish(2, 5, 20);
        inn.furnish(2, 5, 20);
        inn.come(100, 1, 0);
        inn.come(10, 1, 0);
        Check.equal("without a bid", -1, inn.leave(0));
        inn.bid(0, 1, 30);
        inn.bid(1, 0, 30);
        Check.equal("the bid's room", 1, inn.leave(0));
        Check.equal("the price is gone", 0, inn.guest(0, 4));
        Check.equal("the room is gone", -1, inn.guest(0, 3));
        Check.equal("nobody wins", -1, inn.wins(1, 0));
        Check.equal("it is gone", -1, inn.leave(0));
        Check.equal("the other one's bid is there", 1, inn.count(6));
        Check.equal("a bid that does not count", 0, inn.leave(1));
        Check.equal("the guest is there", 2, inn.count(4));
        inn.bid(0, 1, 30);
        inn.night();
        Check.equal("gone with the night", -1, inn.leave(0));
        int[] wrong = {-1, 2, Integer.MIN_VALUE, Integer.MAX_VALUE};
        for (int guest : wrong) {
            Check.refusesIndex(inn, "leave(" + guest + ")", () -> inn.leave(guest));
        }
        Check.end();
    }
}
