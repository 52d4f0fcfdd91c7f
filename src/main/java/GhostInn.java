import java.util.ArrayList;
import java.util.Arrays;

/** An inn with ghosts, whose rooms are let by silent auctions. */
public final class GhostInn {
    private static final int NONE = -1;
    private static final int HOURS = 12;
    private static final int MOST_ROOMS = 10;
    private static final int MOST_DOORS = 20;
    private static final int MOST_GHOSTS = 5;
    private static final int MOST_GUESTS = 12;
    private static final int MOST_NERVE = 90;

    private static final int COUNT_FIGURES = 9;
    private static final int ROOM_FIGURES = 6;
    private static final int WINS_FIGURES = 3;
    private static final int GUEST_FIGURES = 7;

    private final ArrayList<Room> rooms = new ArrayList<>();
    private final ArrayList<Ghost> ghosts = new ArrayList<>();
    private final ArrayList<Guest> guests = new ArrayList<>();
    private final Seating seating = new Seating();
    private int doors;
    private int nightsGone;
    private int coins;
    private int givenBack;

    public GhostInn() {
    }

    // ---- rooms, doors, ghosts

    public int furnish(int beds, int comfort, int least)
            throws IllegalArgumentException, IllegalStateException {
        if (!within(beds, 1, 6) || !within(comfort, 0, 9) || !within(least, 0, 100)) {
            throw new IllegalArgumentException("no such beds, comfort or least price");
        }
        if (rooms.size() >= MOST_ROOMS) {
            throw new IllegalStateException("there is no place for another room");
        }
        rooms.add(new Room(beds, comfort, least));
        return rooms.size() - 1;
    }

    public int door(int a, int b)
            throws IndexOutOfBoundsException, IllegalArgumentException, IllegalStateException {
        if (!isRoom(a) || !isRoom(b)) {
            throw new IndexOutOfBoundsException("no such room");
        }
        if (a == b) {
            throw new IllegalArgumentException("a door joins two rooms");
        }
        Room one = rooms.get(a);
        Room other = rooms.get(b);
        if (one.leadsTo(b)) {
            return doors;
        }
        if (doors >= MOST_DOORS) {
            throw new IllegalStateException("there is no place for another door");
        }
        one.openTo(b);
        other.openTo(a);
        doors++;
        planAllWays();
        return doors;
    }

    public int haunt(int room, int fright, int wakes, int bed)
            throws IndexOutOfBoundsException, IllegalArgumentException, IllegalStateException {
        if (!isRoom(room)) {
            throw new IndexOutOfBoundsException("no such room");
        }
        if (!within(fright, 1, 9) || !within(wakes, 0, HOURS - 1) || !within(bed, wakes + 1, HOURS)) {
            throw new IllegalArgumentException("no such fright or hours");
        }
        if (ghosts.size() >= MOST_GHOSTS) {
            throw new IllegalStateException("there is no place for another ghost");
        }
        Ghost ghost = new Ghost(room, fright, wakes, bed);
        planWay(ghost);
        ghosts.add(ghost);
        return ghosts.size() - 1;
    }

    public int at(int ghost, int hour) throws IndexOutOfBoundsException {
        if (!isGhost(ghost)) {
            throw new IndexOutOfBoundsException("no such ghost");
        }
        if (!within(hour, 0, HOURS - 1)) {
            throw new IndexOutOfBoundsException("no such hour");
        }
        return ghosts.get(ghost).placeIn(hour);
    }

    public int haunting(int room, int hour) throws IndexOutOfBoundsException {
        if (!isRoom(room)) {
            throw new IndexOutOfBoundsException("no such room");
        }
        if (!within(hour, -1, HOURS - 1)) {
            throw new IndexOutOfBoundsException("no such hour");
        }
        return hour == -1 ? hauntingOfNight(room, NONE) : hauntingInHour(room, hour, NONE);
    }

    public int room(int room, int what) throws IndexOutOfBoundsException {
        if (!isRoom(room)) {
            throw new IndexOutOfBoundsException("no such room");
        }
        Room asked = rooms.get(room);
        switch (what) {
            case 0:
                return asked.beds;
            case 1:
                return asked.comfort;
            case 2:
                return asked.least;
            case 3:
                return asked.doorsThere();
            case 4:
                return asked.nightsLet;
            case 5:
                return asked.earned;
            default:
                throw new IndexOutOfBoundsException("a room has no such figure");
        }
    }

    // ---- guests and bids

    public int come(int coins, int beds, int nerve)
            throws IllegalArgumentException, IllegalStateException {
        if (!within(coins, 0, 1000) || !within(beds, 1, 6) || !within(nerve, -9, MOST_NERVE)) {
            throw new IllegalArgumentException("no such coins, beds or nerve");
        }
        if (guests.size() >= MOST_GUESTS) {
            throw new IllegalStateException("there is no place for another guest");
        }
        guests.add(new Guest(coins, beds, nerve));
        return guests.size() - 1;
    }

    public boolean bid(int guest, int room, int price)
            throws IndexOutOfBoundsException, IllegalArgumentException {
        if (!isGuest(guest)) {
            throw new IndexOutOfBoundsException("no such guest");
        }
        if (!isRoom(room)) {
            throw new IndexOutOfBoundsException("no such room");
        }
        if (!within(price, 1, 200)) {
            throw new IllegalArgumentException("no such price");
        }
        Guest bidder = guests.get(guest);
        bidder.writeBid(room, price);
        return bidder.couldBidFor(rooms.get(room));
    }

    public int leave(int guest) throws IndexOutOfBoundsException {
        if (!isGuest(guest)) {
            throw new IndexOutOfBoundsException("no such guest");
        }
        Guest bidder = guests.get(guest);
        int room = bidder.bidRoom;
        bidder.dropBid();
        return room;
    }

    public int guest(int guest, int what) throws IndexOutOfBoundsException {
        if (!isGuest(guest)) {
            throw new IndexOutOfBoundsException("no such guest");
        }
        Guest asked = guests.get(guest);
        switch (what) {
            case 0:
                return asked.coins;
            case 1:
                return asked.beds;
            case 2:
                return asked.nerve;
            case 3:
                return asked.bidRoom;
            case 4:
                return asked.bidPrice;
            case 5:
                return asked.nightsStayed;
            case 6:
                return asked.nightsUpset;
            default:
                throw new IndexOutOfBoundsException("a guest has no such figure");
        }
    }

    public int wins(int room, int what) throws IndexOutOfBoundsException {
        if (!isRoom(room)) {
            throw new IndexOutOfBoundsException("no such room");
        }
        switch (what) {
            case 0:
                return winnerOf(room);
            case 1:
                return dueFor(room, winnerOf(room));
            case 2:
                return bidsThatCount(room);
            default:
                throw new IndexOutOfBoundsException("an auction has no such figure");
        }
    }

    // ---- nights

    public int night() {
        // A guest bids for one room only, so that no room's letting changes what another one's finds.
        for (int room = 0; room < rooms.size(); room++) {
            letRoom(room);
        }
        for (int guest = 0; guest < guests.size(); guest++) {
            guests.get(guest).dropBid();
        }
        nightsGone++;
        return coins;
    }

    public int count(int what) throws IndexOutOfBoundsException {
        switch (what) {
            case 0:
                return nightsGone;
            case 1:
                return rooms.size();
            case 2:
                return doors;
            case 3:
                return ghosts.size();
            case 4:
                return guests.size();
            case 5:
                return coins;
            case 6:
                return bidsWritten();
            case 7:
                return givenBack;
            case 8:
                return roomsToLet();
            default:
                throw new IndexOutOfBoundsException("the inn has no such figure");
        }
    }

    // ---- what would be

    public int best(int guest) throws IndexOutOfBoundsException {
        if (!isGuest(guest)) {
            throw new IndexOutOfBoundsException("no such guest");
        }
        Guest asking = guests.get(guest);
        int best = NONE;
        int bestComfort = -1;
        for (int number = 0; number < rooms.size(); number++) {
            Room room = rooms.get(number);
            if (room.comfort > bestComfort && room.beds >= asking.beds && room.least <= asking.coins
                    && !asking.isUpsetBy(hauntingOfNight(number, NONE))) {
                best = number;
                bestComfort = room.comfort;
            }
        }
        return best;
    }

    public int most() {
        seating.clear();
        allowSeats();
        // What a guest pays is the same in each room, and a guest who has a room is at most moved, never
        // turned out, when a later one gets a room: so to serve the dearest bids first takes in the most.
        int taken = 0;
        int guest = nextDearest(NONE);
        for (int served = 0; served < guests.size() && isGuest(guest); served++) {
            if (seating.seat(guest)) {
                taken += guests.get(guest).bidPrice;
            }
            guest = nextDearest(guest);
        }
        return taken;
    }

    public int scares(int ghost) throws IndexOutOfBoundsException {
        if (!isGhost(ghost)) {
            throw new IndexOutOfBoundsException("no such ghost");
        }
        return backTonight(NONE) - backTonight(ghost);
    }

    public double mean() {
        int nightsLet = 0;
        for (int room = 0; room < rooms.size(); room++) {
            nightsLet += rooms.get(room).nightsLet;
        }
        return nightsLet == 0 ? 0.0 : (double) coins / (double) nightsLet;
    }

    public long digest() {
        long d = 773;
        for (int what = 0; what < COUNT_FIGURES; what++) {
            d = d * 31 + count(what);
        }
        for (int room = 0; room < rooms.size(); room++) {
            d = digestRoom(d, room);
        }
        for (int ghost = 0; ghost < ghosts.size(); ghost++) {
            for (int hour = 0; hour < HOURS; hour++) {
                d = d * 31 + at(ghost, hour);
            }
        }
        for (int guest = 0; guest < guests.size(); guest++) {
            for (int what = 0; what < GUEST_FIGURES; what++) {
                d = d * 31 + guest(guest, what);
            }
        }
        return d;
    }

    private long digestRoom(long before, int room) {
        long d = before;
        for (int what = 0; what < ROOM_FIGURES; what++) {
            d = d * 31 + room(room, what);
        }
        for (int what = 0; what < WINS_FIGURES; what++) {
            d = d * 31 + wins(room, what);
        }
        return d * 31 + haunting(room, -1);
    }

    // ---- what is there

    private static boolean within(int number, int least, int most) {
        return number >= least && number <= most;
    }

    private boolean isRoom(int number) {
        return number >= 0 && number < rooms.size();
    }

    private boolean isGhost(int number) {
        return number >= 0 && number < ghosts.size();
    }

    private boolean isGuest(int number) {
        return number >= 0 && number < guests.size();
    }

    // ---- the ghosts' ways

    private void planAllWays() {
        for (int ghost = 0; ghost < ghosts.size(); ghost++) {
            planWay(ghosts.get(ghost));
        }
    }

    private void planWay(Ghost ghost) {
        int place = ghost.home;
        for (int hour = 0; hour < HOURS; hour++) {
            if (hour > ghost.wakes) {
                place = nextRoom(place);
            }
            ghost.setPlace(hour, ghost.isAwakeIn(hour) ? place : NONE);
        }
    }

    private int nextRoom(int here) {
        if (!isRoom(here)) {
            return here;
        }
        Room room = rooms.get(here);
        int smallest = NONE;
        for (int number = 0; number < rooms.size(); number++) {
            if (room.leadsTo(number)) {
                if (number > here) {
                    return number;
                }
                if (smallest == NONE) {
                    smallest = number;
                }
            }
        }
        return smallest == NONE ? here : smallest;
    }

    /** The haunting without the ghost sleeper, who may be NONE. */
    private int hauntingInHour(int room, int hour, int sleeper) {
        int sum = 0;
        for (int number = 0; number < ghosts.size(); number++) {
            Ghost ghost = ghosts.get(number);
            if (number != sleeper && ghost.placeIn(hour) == room) {
                sum += ghost.fright;
            }
        }
        return sum;
    }

    private int hauntingOfNight(int room, int sleeper) {
        int sum = 0;
        for (int hour = 0; hour < HOURS; hour++) {
            sum += hauntingInHour(room, hour, sleeper);
        }
        return sum;
    }

    // ---- auctions

    private boolean countsFor(Guest guest, int room) {
        return isRoom(room) && guest.bidRoom == room && guest.couldBidFor(rooms.get(room));
    }

    private int winnerOf(int room) {
        int winner = NONE;
        int greatest = 0;
        for (int number = 0; number < guests.size(); number++) {
            Guest guest = guests.get(number);
            if (countsFor(guest, room) && guest.bidPrice > greatest) {
                winner = number;
                greatest = guest.bidPrice;
            }
        }
        return winner;
    }

    private int dueFor(int room, int winner) {
        if (!isRoom(room) || winner == NONE) {
            return 0;
        }
        int due = rooms.get(room).least;
        for (int number = 0; number < guests.size(); number++) {
            Guest guest = guests.get(number);
            if (number != winner && countsFor(guest, room)) {
                due = Math.max(due, guest.bidPrice);
            }
        }
        return due;
    }

    private int bidsThatCount(int room) {
        int bids = 0;
        for (int guest = 0; guest < guests.size(); guest++) {
            if (countsFor(guests.get(guest), room)) {
                bids++;
            }
        }
        return bids;
    }

    private int bidsWritten() {
        int bids = 0;
        for (int guest = 0; guest < guests.size(); guest++) {
            if (guests.get(guest).hasBid()) {
                bids++;
            }
        }
        return bids;
    }

    private int roomsToLet() {
        int toLet = 0;
        for (int room = 0; room < rooms.size(); room++) {
            if (winnerOf(room) != NONE) {
                toLet++;
            }
        }
        return toLet;
    }

    private void letRoom(int number) {
        int winner = winnerOf(number);
        if (!isRoom(number) || !isGuest(winner)) {
            return;
        }
        Room room = rooms.get(number);
        Guest guest = guests.get(winner);
        int haunting = hauntingOfNight(number, NONE);
        int paid = dueFor(number, winner);
        int back = guest.isUpsetBy(haunting) ? paid / 2 : 0;
        room.wasLet(paid - back, guest.isFrightenedBy(haunting));
        guest.stayed(paid - back, haunting);
        coins += paid - back;
        givenBack += back;
    }

    /** What would be given back in this night without the ghost sleeper, who may be NONE. */
    private int backTonight(int sleeper) {
        int back = 0;
        for (int room = 0; room < rooms.size(); room++) {
            int winner = winnerOf(room);
            if (isGuest(winner) && guests.get(winner).isUpsetBy(hauntingOfNight(room, sleeper))) {
                back += dueFor(room, winner) / 2;
            }
        }
        return back;
    }

    // ---- rooms given by the inn itself

    private void allowSeats() {
        for (int number = 0; number < guests.size(); number++) {
            Guest guest = guests.get(number);
            for (int room = 0; room < rooms.size(); room++) {
                if (guest.hasBid() && guest.couldBidFor(rooms.get(room))) {
                    seating.allow(number, room);
                }
            }
        }
    }

    /** The guest who follows, NONE behind the last one, by falling price; after NONE the first one. */
    private int nextDearest(int after) {
        int next = NONE;
        for (int guest = 0; guest < guests.size(); guest++) {
            boolean follows = after == NONE || isDearer(after, guest);
            if (guests.get(guest).hasBid() && follows && (next == NONE || isDearer(guest, next))) {
                next = guest;
            }
        }
        return next;
    }

    /** Of bids of one price that of the smaller number is the dearer one, so that none are equal. */
    private boolean isDearer(int one, int other) {
        if (!isGuest(one) || !isGuest(other)) {
            return false;
        }
        int onePrice = guests.get(one).bidPrice;
        int otherPrice = guests.get(other).bidPrice;
        return onePrice > otherPrice || onePrice == otherPrice && one < other;
    }

    private static final class Room {
        final int beds;
        final int least;
        int comfort;
        int nightsLet;
        int earned;
        private int doorBits;

        Room(int beds, int comfort, int least) {
            this.beds = beds;
            this.comfort = comfort;
            this.least = least;
        }

        boolean leadsTo(int room) {
            return (doorBits >> room & 1) == 1;
        }

        void openTo(int room) {
            doorBits |= 1 << room;
        }

        int doorsThere() {
            return Integer.bitCount(doorBits);
        }

        void wasLet(int earning, boolean frightening) {
            nightsLet++;
            earned += earning;
            if (frightening) {
                comfort = Math.max(comfort - 1, 0);
            }
        }
    }

    private static final class Ghost {
        final int home;
        final int fright;
        final int wakes;
        private final int bed;
        private final int[] places = new int[HOURS];

        Ghost(int home, int fright, int wakes, int bed) {
            this.home = home;
            this.fright = fright;
            this.wakes = wakes;
            this.bed = bed;
        }

        boolean isAwakeIn(int hour) {
            return hour >= wakes && hour < bed;
        }

        void setPlace(int hour, int room) {
            if (hour >= 0 && hour < places.length) {
                places[hour] = room;
            }
        }

        int placeIn(int hour) {
            return hour >= 0 && hour < places.length ? places[hour] : NONE;
        }
    }

    private static final class Guest {
        final int beds;
        int coins;
        int nerve;
        int bidRoom = NONE;
        int bidPrice;
        int nightsStayed;
        int nightsUpset;

        Guest(int coins, int beds, int nerve) {
            this.coins = coins;
            this.beds = beds;
            this.nerve = nerve;
        }

        boolean hasBid() {
            return bidRoom != NONE;
        }

        void writeBid(int room, int price) {
            bidRoom = room;
            bidPrice = price;
        }

        void dropBid() {
            bidRoom = NONE;
            bidPrice = 0;
        }

        /** Whether the bid would count, if it was for this room. */
        boolean couldBidFor(Room room) {
            return coins >= bidPrice && room.beds >= beds && bidPrice >= room.least;
        }

        boolean isFrightenedBy(int haunting) {
            return nerve >= 0 && haunting > nerve;
        }

        boolean isUpsetBy(int haunting) {
            boolean bored = nerve < 0 && haunting < -nerve;
            return bored || isFrightenedBy(haunting);
        }

        void stayed(int spent, int haunting) {
            coins -= spent;
            nightsStayed++;
            if (isUpsetBy(haunting)) {
                nightsUpset++;
            }
            if (isFrightenedBy(haunting)) {
                nerve = Math.max(nerve - 1, 0);
            } else if (nerve >= 0) {
                nerve = Math.min(nerve + 1, MOST_NERVE);
            }
        }
    }

    /** Rooms given to guests, at most one to each; whoever has one may be moved for another guest. */
    private static final class Seating {
        private final int[] allowedBits = new int[MOST_GUESTS];
        private final int[] holders = new int[MOST_ROOMS];
        private int askedBits;

        void clear() {
            Arrays.fill(allowedBits, 0);
            Arrays.fill(holders, NONE);
        }

        void allow(int guest, int room) {
            if (guest >= 0 && guest < allowedBits.length) {
                allowedBits[guest] |= 1 << room;
            }
        }

        boolean seat(int guest) {
            askedBits = 0;
            return findRoom(this, guest, 0);
        }

        /** Each level asks for a room that none asked for yet, so the rooms bound the depth. */
        private static boolean findRoom(Seating plan, int guest, int depth) {
            if (guest < 0 || guest >= plan.allowedBits.length || depth > MOST_ROOMS) {
                return false;
            }
            for (int room = 0; room < plan.holders.length; room++) {
                int bit = 1 << room;
                if ((plan.allowedBits[guest] & bit) != 0 && (plan.askedBits & bit) == 0) {
                    plan.askedBits |= bit;
                    int holder = plan.holders[room];
                    if (holder == NONE || findRoom(plan, holder, depth + 1)) {
                        plan.holders[room] = guest;
                        return true;
                    }
                }
            }
            return false;
        }
    }
}
