import java.util.List;
import java.util.function.Supplier;

/** Inns that the tests of the edges begin with, each made anew and by at most 85 calls. */
final class Inns {
    private Inns() {
    }

    /** With nothing there yet, with some of each, with every place taken. */
    static List<Supplier<GhostInn>> each() {
        return List.of(GhostInn::new, Inns::some, Inns::full);
    }

    /** Rooms of one bed, of comfort 5, for nothing. */
    static GhostInn withRooms(int rooms) {
        GhostInn inn = new GhostInn();
        for (int room = 0; room < rooms; room++) {
            inn.furnish(1, 5, 0);
        }
        return inn;
    }

    /** Ten rooms, and the first ones of the doors 0-1, 0-2 .. 0-9, 1-2 .. 1-9, 2-3, 2-4, 2-5. */
    static GhostInn withDoors(int doors) {
        GhostInn inn = withRooms(10);
        int made = 0;
        for (int a = 0; a < 10; a++) {
            for (int b = a + 1; b < 10 && made < doors; b++) {
                inn.door(a, b);
                made++;
            }
        }
        return inn;
    }

    /** Two rooms, and ghosts of fright 1 in room 0, each awake in the hour of its own number alone. */
    static GhostInn withGhosts(int ghosts) {
        GhostInn inn = withRooms(2);
        for (int ghost = 0; ghost < ghosts; ghost++) {
            inn.haunt(0, 1, ghost, ghost + 1);
        }
        return inn;
    }

    /** Two rooms, and guests with 100 coins, who need one bed, of nerve 0. */
    static GhostInn withGuests(int guests) {
        GhostInn inn = withRooms(2);
        for (int guest = 0; guest < guests; guest++) {
            inn.come(100, 1, 0);
        }
        return inn;
    }

    /** One room of comfort 5 with this haunting of the night, up to 9, and one guest of 100 coins and this nerve. */
    static GhostInn haunted(int least, int haunting, int nerve) {
        GhostInn inn = new GhostInn();
        inn.furnish(1, 5, least);
        if (haunting > 0) {
            inn.haunt(0, haunting, 0, 1);
        }
        inn.come(100, 1, nerve);
        return inn;
    }

    /** Three rooms, one door, two ghosts and three guests in their second night, with two bids. */
    static GhostInn some() {
        GhostInn inn = new GhostInn();
        inn.furnish(2, 5, 20);
        inn.furnish(4, 9, 35);
        inn.furnish(1, 0, 0);
        inn.door(0, 1);
        inn.haunt(0, 5, 2, 8);
        inn.haunt(1, 9, 0, 12);
        inn.come(100, 2, 9);
        inn.come(60, 1, -9);
        inn.come(1000, 1, 90);
        inn.bid(0, 0, 50);
        inn.bid(1, 0, 40);
        inn.night();
        inn.bid(0, 0, 30);
        inn.bid(2, 1, 60);
        return inn;
    }

    /** Ten rooms, 20 doors, five ghosts and twelve guests in their second night, each guest with a bid. */
    static GhostInn full() {
        GhostInn inn = new GhostInn();
        for (int room = 0; room < 10; room++) {
            inn.furnish(1 + room % 6, room, 7 * room);
        }
        for (int door = 0; door < 20; door++) {
            inn.door(door % 10, (door + 1 + door / 10) % 10);
        }
        for (int ghost = 0; ghost < 5; ghost++) {
            inn.haunt(2 * ghost, 1 + 2 * ghost, ghost, 12 - ghost);
        }
        for (int guest = 0; guest < 12; guest++) {
            inn.come(90 * guest, 1 + guest % 3, 9 * guest - 9);
        }
        bidAll(inn, 0);
        inn.night();
        bidAll(inn, 3);
        return inn;
    }

    private static void bidAll(GhostInn inn, int shift) {
        for (int guest = 0; guest < 12; guest++) {
            inn.bid(guest, (guest + shift) % 10, 20 + 15 * guest);
        }
    }
}
