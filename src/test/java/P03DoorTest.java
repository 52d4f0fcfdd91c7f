/** Promise 3: door. */
final class P03DoorTest {
    public static void main(String[] args) {
        GhostInn inn = new GhostInn();
        Check.refusesIndex(inn, "door(0, 0) without rooms", () -> inn.door(0, 0));
        for (int room = 0; room < 9; room++) {
            inn.furnish(1, 0, 0);
        }
        Check.refusesIndex(inn, "door(-1, 0)", () -> inn.door(-1, 0));
        Check.refusesIndex(inn, "door(0, -1)", () -> inn.door(0, -1));
        Check.refusesIndex(inn, "door(9, 0)", () -> inn.door(9, 0));
        Check.refusesIndex(inn, "door(0, 9)", () -> inn.door(0, 9));
        Check.refusesIndex(inn, "door(9, 9)", () -> inn.door(9, 9));
        Check.refusesIndex(inn, "door(MIN, MAX)", () -> inn.door(Integer.MIN_VALUE, Integer.MAX_VALUE));
        Check.refusesArgument(inn, "door(0, 0)", () -> inn.door(0, 0));
        Check.refusesArgument(inn, "door(8, 8)", () -> inn.door(8, 8));
        inn.furnish(1, 0, 0);

        Check.equal("door(0, 9)", 1, inn.door(0, 9));
        Check.equal("door(0, 9) again", 1, inn.door(0, 9));
        Check.equal("door(9, 0), the same one", 1, inn.door(9, 0));
        Check.equal("doors in 0", 1, inn.room(0, 3));
        Check.equal("doors in 9", 1, inn.room(9, 3));
        int doors = 1;
        for (int a = 0; a < 10 && doors < 20; a++) {
            for (int b = a + 1; b < 9 && doors < 20; b++) {
                doors++;
                Check.equal("door(" + b + ", " + a + ")", doors, inn.door(b, a));
            }
        }
        Check.equal("count(2)", 20, inn.count(2));
        Check.refusesState(inn, "the 21st door", () -> inn.door(7, 8));
        Check.equal("one that is there, with 20", 20, inn.door(9, 0));
        Check.equal("one that is there, with 20, the other way", 20, inn.door(0, 1));
        Check.refusesIndex(inn, "door(10, 10) with 20", () -> inn.door(10, 10));
        Check.refusesArgument(inn, "door(8, 8) with 20", () -> inn.door(8, 8));
        joinsInBothDirections();
        Check.end();
    }

    private static void joinsInBothDirections() {
        for (int home = 0; home < 2; home++) {
            GhostInn inn = new GhostInn();
            inn.furnish(1, 0, 0);
            inn.furnish(1, 0, 0);
            inn.haunt(home, 1, 0, 12);
            Check.equal("before the door", home, inn.at(0, 1));
            inn.door(1, 0);
            Check.equal("through the door", 1 - home, inn.at(0, 1));
            Check.equal("and back", home, inn.at(0, 2));
        }
    }
}
