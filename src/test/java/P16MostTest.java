/** Promise 16: most, by hand and against a search of all ways to give the rooms. */
final class P16MostTest {
    public static void main(String[] args) {
        byHand();
        fullInn();
        for (int run = 0; run < 400; run++) {
            againstAllWays(new Dice(run));
        }
        Check.end();
    }

    private static void byHand() {
        GhostInn inn = new GhostInn();
        Check.equal("without rooms", 0, inn.most());
        inn.furnish(2, 5, 20);
        inn.furnish(4, 5, 50);
        inn.come(100, 1, 0);
        inn.come(100, 1, 0);
        inn.come(100, 4, 0);
        Check.equal("without bids", 0, inn.most());
        inn.bid(0, 0, 60);
        Check.equal("the price of the own bid", 60, inn.most());
        inn.bid(1, 0, 40);
        Check.equal("the dear one moves to the other room", 100, inn.most());
        inn.bid(2, 1, 70);
        Check.equal("the cheapest one stays out", 130, inn.most());
        inn.bid(2, 0, 70);
        Check.equal("for whichever room", 130, inn.most());
        inn.bid(1, 0, 19);
        inn.bid(0, 0, 101);
        Check.equal("too dear for the coins, less than the least price", 70, inn.most());
        inn.bid(1, 1, 20);
        Check.equal("a bid that counts for another room alone", 90, inn.most());
        long before = inn.digest();
        inn.most();
        Check.equal("nothing is changed, digest()", before, inn.digest());
        inn.haunt(0, 9, 0, 12);
        inn.haunt(1, 9, 0, 12);
        Check.equal("whatever frightens them", 90, inn.most());
        inn.night();
        Check.equal("the bids are gone", 0, inn.most());
    }

    private static void fullInn() {
        GhostInn inn = new GhostInn();
        for (int room = 0; room < 9; room++) {
            inn.furnish(1, 0, 0);
        }
        inn.furnish(6, 0, 0);
        for (int guest = 0; guest < 12; guest++) {
            inn.come(1000, 1, 0);
            inn.bid(guest, 0, 101 + guest);
        }
        Check.equal("ten rooms for the dearest ten of twelve", 103 + 104 + 105 + 106 + 107 + 108 + 109 + 110
                + 111 + 112, inn.most());
        GhostInn last = new GhostInn();
        for (int room = 0; room < 10; room++) {
            last.furnish(room < 9 ? 1 : 6, 0, 0);
        }
        last.come(1000, 6, 0);
        last.bid(0, 9, 7);
        Check.equal("the last room alone", 7, last.most());
        for (int guest = 1; guest < 11; guest++) {
            last.come(1000, 1, 0);
            last.bid(guest, 9, 100 + guest);
        }
        Check.equal("one stays out who needs the last room", 1055, last.most());
        last.leave(1);
        Check.equal("all move for the one who needs the last room", 954 + 7, last.most());
    }

    private static void againstAllWays(Dice dice) {
        GhostInn inn = new GhostInn();
        int[][] rooms = new int[dice.from(1, 6)][];
        int[][] guests = new int[dice.from(1, 8)][];
        for (int room = 0; room < rooms.length; room++) {
            rooms[room] = new int[] {dice.from(1, 6), dice.from(0, 100)};
            inn.furnish(rooms[room][0], 0, rooms[room][1]);
        }
        for (int guest = 0; guest < guests.length; guest++) {
            guests[guest] = new int[] {dice.from(0, 300), dice.from(1, 6), 0};
            inn.come(guests[guest][0], guests[guest][1], 0);
            if (dice.from(0, 9) > 0) {
                guests[guest][2] = dice.from(1, 200);
                inn.bid(guest, dice.from(0, rooms.length - 1), guests[guest][2]);
            }
        }
        Check.equal("most() of all ways", allWays(rooms, guests, 0, 0), inn.most());
    }

    /** Rooms: beds and least price. Guests: coins, beds and price, 0 without a bid. */
    private static int allWays(int[][] rooms, int[][] guests, int guest, int taken) {
        if (guest == guests.length) {
            return 0;
        }
        int most = allWays(rooms, guests, guest + 1, taken);
        int[] asking = guests[guest];
        for (int room = 0; room < rooms.length; room++) {
            boolean counts = asking[2] > 0 && asking[0] >= asking[2] && rooms[room][0] >= asking[1]
                    && asking[2] >= rooms[room][1];
            if (counts && (taken >> room & 1) == 0) {
                most = Math.max(most, asking[2] + allWays(rooms, guests, guest + 1, taken | 1 << room));
            }
        }
        return most;
    }
}
