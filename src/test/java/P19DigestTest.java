/** Promise 19: digest, written a second time here over all that the inn tells. */
final class P19DigestTest {
    public static void main(String[] args) {
        GhostInn inn = new GhostInn();
        long empty = 773;
        for (int zeros = 0; zeros < 9; zeros++) {
            empty *= 31;
        }
        Check.equal("an empty inn", empty, inn.digest());
        inn.night();
        Check.equal("the night comes first", fold(inn), inn.digest());
        inn.furnish(2, 5, 20);
        inn.furnish(3, 9, 35);
        Check.equal("with rooms", fold(inn), inn.digest());
        inn.door(0, 1);
        inn.haunt(0, 5, 2, 8);
        inn.haunt(1, 9, 0, 12);
        Check.equal("with ghosts", fold(inn), inn.digest());
        inn.come(100, 2, 9);
        inn.come(100, 2, -9);
        inn.come(100, 1, 90);
        inn.bid(0, 1, 50);
        inn.bid(1, 0, 30);
        inn.bid(2, 1, 40);
        Check.equal("with bids", fold(inn), inn.digest());
        Check.equal("twice the same", inn.digest(), inn.digest());
        inn.night();
        Check.equal("behind a night", fold(inn), inn.digest());
        Check.end();
    }

    private static long fold(GhostInn inn) {
        long d = 773;
        for (int what = 0; what < 9; what++) {
            d = d * 31 + inn.count(what);
        }
        for (int room = 0; room < inn.count(1); room++) {
            for (int what = 0; what < 6; what++) {
                d = d * 31 + inn.room(room, what);
            }
            for (int what = 0; what < 3; what++) {
                d = d * 31 + inn.wins(room, what);
            }
            d = d * 31 + inn.haunting(room, -1);
        }
        for (int ghost = 0; ghost < inn.count(3); ghost++) {
            for (int hour = 0; hour < 12; hour++) {
                d = d * 31 + inn.at(ghost, hour);
            }
        }
        for (int guest = 0; guest < inn.count(4); guest++) {
            for (int what = 0; what < 7; what++) {
                d = d * 31 + inn.guest(guest, what);
            }
        }
        return d;
    }
}
