import java.util.ArrayList;
import java.util.HashMap;
import java.util.List;
import java.util.Map;
import java.util.TreeSet;

/** The inn a second time, for the tests: it holds what was said, and works everything out anew when asked. */
final class PlainInn {
    private final List<int[]> rooms = new ArrayList<>(); // beds, comfort, least, nights let, earned
    private final List<TreeSet<Integer>> doors = new ArrayList<>();
    private final List<int[]> ghosts = new ArrayList<>(); // home, fright, wakes, bed
    private final List<int[]> guests = new ArrayList<>(); // coins, beds, nerve, nights, upset
    private final Map<Integer, int[]> bids = new HashMap<>(); // by guest: room, price
    private int night;
    private int coins;
    private int back;

    private static void want(boolean right, RuntimeException otherwise) {
        if (!right) {
            throw otherwise;
        }
    }

    private static void index(int number, int size) {
        want(number >= 0 && number < size, new IndexOutOfBoundsException());
    }

    private static void argument(int number, int least, int most) {
        want(number >= least && number <= most, new IllegalArgumentException());
    }

    private static void space(int size, int most) {
        want(size < most, new IllegalStateException());
    }

    int furnish(int beds, int comfort, int least) {
        argument(beds, 1, 6);
        argument(comfort, 0, 9);
        argument(least, 0, 100);
        space(rooms.size(), 10);
        rooms.add(new int[] {beds, comfort, least, 0, 0});
        doors.add(new TreeSet<>());
        return rooms.size() - 1;
    }

    private int doors() {
        return doors.stream().mapToInt(TreeSet::size).sum() / 2;
    }

    int door(int a, int b) {
        index(a, rooms.size());
        index(b, rooms.size());
        want(a != b, new IllegalArgumentException());
        if (!doors.get(a).contains(b)) {
            space(doors(), 20);
            doors.get(a).add(b);
            doors.get(b).add(a);
        }
        return doors();
    }

    int haunt(int room, int fright, int wakes, int bed) {
        index(room, rooms.size());
        argument(fright, 1, 9);
        argument(wakes, 0, 11);
        argument(bed, wakes + 1, 12);
        space(ghosts.size(), 5);
        ghosts.add(new int[] {room, fright, wakes, bed});
        return ghosts.size() - 1;
    }

    int at(int ghost, int hour) {
        index(ghost, ghosts.size());
        index(hour, 12);
        int[] g = ghosts.get(ghost);
        return hour < g[2] || hour >= g[3] ? -1 : walk(g[0], hour - g[2]);
    }

    private int walk(int from, int steps) {
        TreeSet<Integer> next = doors.get(from);
        if (steps == 0 || next.isEmpty()) {
            return from;
        }
        Integer higher = next.higher(from);
        return walk(higher == null ? next.first() : higher, steps - 1);
    }

    int haunting(int room, int hour) {
        index(room, rooms.size());
        index(hour + 1, 13);
        return haunting(room, hour, -1);
    }

    private int haunting(int room, int hour, int sleeper) {
        int sum = 0;
        for (int g = 0; g < ghosts.size(); g++) {
            for (int h = 0; h < 12; h++) {
                if ((hour == -1 || hour == h) && g != sleeper && at(g, h) == room) {
                    sum += ghosts.get(g)[1];
                }
            }
        }
        return sum;
    }

    int room(int room, int what) {
        index(room, rooms.size());
        index(what, 6);
        int[] r = rooms.get(room);
        return new int[] {r[0], r[1], r[2], doors.get(room).size(), r[3], r[4]}[what];
    }

    int come(int coins, int beds, int nerve) {
        argument(coins, 0, 1000);
        argument(beds, 1, 6);
        argument(nerve, -9, 90);
        space(guests.size(), 12);
        guests.add(new int[] {coins, beds, nerve, 0, 0});
        return guests.size() - 1;
    }

    boolean bid(int guest, int room, int price) {
        index(guest, guests.size());
        index(room, rooms.size());
        argument(price, 1, 200);
        bids.put(guest, new int[] {room, price});
        return counts(guest, room);
    }

    private boolean counts(int guest, int room) {
        int[] g = guests.get(guest);
        int price = bids.get(guest)[1];
        return price <= g[0] && rooms.get(room)[0] >= g[1] && price >= rooms.get(room)[2];
    }

    int leave(int guest) {
        index(guest, guests.size());
        int[] bid = bids.remove(guest);
        return bid == null ? -1 : bid[0];
    }

    int guest(int guest, int what) {
        index(guest, guests.size());
        index(what, 7);
        int[] g = guests.get(guest);
        int[] bid = bids.getOrDefault(guest, new int[] {-1, 0});
        return new int[] {g[0], g[1], g[2], bid[0], bid[1], g[3], g[4]}[what];
    }

    /** The guests whose bids for the room count, the dearest one first. */
    private List<Integer> bidders(int room) {
        List<Integer> bidders = new ArrayList<>();
        for (int g = 0; g < guests.size(); g++) {
            if (bids.containsKey(g) && bids.get(g)[0] == room && counts(g, room)) {
                bidders.add(g);
            }
        }
        bidders.sort((one, other) -> bids.get(other)[1] - bids.get(one)[1]);
        return bidders;
    }

    int wins(int room, int what) {
        index(room, rooms.size());
        index(what, 3);
        List<Integer> bidders = bidders(room);
        int winner = bidders.isEmpty() ? -1 : bidders.get(0);
        int due = bidders.isEmpty() ? 0 : rooms.get(room)[2];
        if (bidders.size() > 1) {
            due = bids.get(bidders.get(1))[1];
        }
        return new int[] {winner, due, bidders.size()}[what];
    }

    private boolean upset(int guest, int haunting) {
        int nerve = guests.get(guest)[2];
        return nerve < 0 ? haunting < -nerve : haunting > nerve;
    }

    int night() {
        List<int[]> won = new ArrayList<>(); // guest, room, paid
        for (int r = 0; r < rooms.size(); r++) {
            if (wins(r, 0) >= 0) {
                won.add(new int[] {wins(r, 0), r, wins(r, 1)});
            }
        }
        for (int[] w : won) {
            int[] g = guests.get(w[0]);
            int[] r = rooms.get(w[1]);
            boolean upset = upset(w[0], haunting(w[1], -1));
            int returned = upset ? w[2] / 2 : 0;
            g[0] -= w[2] - returned;
            g[3]++;
            g[4] += upset ? 1 : 0;
            r[3]++;
            r[4] += w[2] - returned;
            coins += w[2] - returned;
            back += returned;
            if (g[2] >= 0 && upset) {
                r[1] = r[1] == 0 ? 0 : r[1] - 1;
            }
            if (g[2] >= 0) {
                g[2] = upset ? (g[2] == 0 ? 0 : g[2] - 1) : (g[2] == 90 ? 90 : g[2] + 1);
            }
        }
        bids.clear();
        night++;
        return coins;
    }

    int count(int what) {
        index(what, 9);
        int let = 0;
        for (int r = 0; r < rooms.size(); r++) {
            let += bidders(r).isEmpty() ? 0 : 1;
        }
        return new int[] {night, rooms.size(), doors(), ghosts.size(), guests.size(), coins, bids.size(),
            back, let}[what];
    }

    int best(int guest) {
        index(guest, guests.size());
        int[] g = guests.get(guest);
        for (int comfort = 9; comfort >= 0; comfort--) {
            for (int r = 0; r < rooms.size(); r++) {
                int[] room = rooms.get(r);
                if (room[1] == comfort && room[0] >= g[1] && room[2] <= g[0] && !upset(guest, haunting(r, -1))) {
                    return r;
                }
            }
        }
        return -1;
    }

    /** Over the sets of rooms that are taken: the most for each, guest by guest. */
    int most() {
        int[] taken = new int[1 << rooms.size()];
        for (int guest : bids.keySet()) {
            for (int set = taken.length - 1; set >= 0; set--) {
                for (int r = 0; r < rooms.size(); r++) {
                    if ((set >> r & 1) == 1 && counts(guest, r)) {
                        taken[set] = Math.max(taken[set], taken[set & ~(1 << r)] + bids.get(guest)[1]);
                    }
                }
            }
        }
        return taken[taken.length - 1];
    }

    private int backTonight(int sleeper) {
        int sum = 0;
        for (int r = 0; r < rooms.size(); r++) {
            if (wins(r, 0) >= 0 && upset(wins(r, 0), haunting(r, -1, sleeper))) {
                sum += wins(r, 1) / 2;
            }
        }
        return sum;
    }

    int scares(int ghost) {
        index(ghost, ghosts.size());
        return backTonight(-1) - backTonight(ghost);
    }

    double mean() {
        int nights = rooms.stream().mapToInt(room -> room[3]).sum();
        return nights == 0 ? 0 : 1.0 * coins / nights;
    }

    long digest() {
        List<Integer> told = new ArrayList<>();
        for (int what = 0; what < 9; what++) {
            told.add(count(what));
        }
        for (int r = 0; r < rooms.size(); r++) {
            for (int what = 0; what < 9; what++) {
                told.add(what < 6 ? room(r, what) : wins(r, what - 6));
            }
            told.add(haunting(r, -1));
        }
        for (int n = 0; n < 12 * ghosts.size(); n++) {
            told.add(at(n / 12, n % 12));
        }
        for (int n = 0; n < 7 * guests.size(); n++) {
            told.add(guest(n / 7, n % 7));
        }
        long d = 773;
        for (int x : told) {
            d = d * 31 + x;
        }
        return d;
    }
}
