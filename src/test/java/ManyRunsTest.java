import java.util.function.Supplier;

/** Promises 2 to 19: runs of 512 calls, right and wrong ones, each answer compared with that of PlainInn. */
final class ManyRunsTest {
    private static final int RUNS = 400;
    private static final int CALLS = 512;
    private static final int[] FAR = {Integer.MIN_VALUE, Integer.MIN_VALUE + 1, -2, -1, 12, 13, 31, 32, 33, 64,
        1001, Integer.MAX_VALUE - 1, Integer.MAX_VALUE};

    public static void main(String[] args) {
        for (int run = 0; run < RUNS; run++) {
            Dice dice = new Dice(1000 + run);
            GhostInn inn = new GhostInn();
            PlainInn plain = new PlainInn();
            for (int n = 1; n < CALLS; n++) {
                call("run " + run + ", call " + n + ", ", dice, run % 4, inn, plain);
            }
            same("run " + run + ", digest as the last call", inn::digest, plain::digest);
        }
        Check.end();
    }

    /** One number of twenty lies far outside of its bounds. */
    private static int number(Dice dice, int least, int most) {
        return dice.from(0, 19) == 0 ? FAR[dice.from(0, FAR.length - 1)] : dice.from(least, most);
    }

    private static void call(String when, Dice dice, int hauntings, GhostInn inn, PlainInn plain) {
        int kind = dice.from(0, 29);
        // PlainInn is asked how many there are of each: what the inn itself answers is promised for 512 calls alone.
        int room = number(dice, 0, Math.max(0, plain.count(1) - 1));
        int guest = number(dice, 0, Math.max(0, plain.count(4) - 1));
        int ghost = number(dice, 0, Math.max(0, plain.count(3) - 1));
        if (kind == 0) {
            int beds = number(dice, 1, 6);
            int comfort = number(dice, 0, 9);
            int least = number(dice, 0, 60);
            same(when + "furnish", () -> inn.furnish(beds, comfort, least), () -> plain.furnish(beds, comfort, least));
        } else if (kind <= 2) {
            int other = number(dice, 0, Math.max(0, plain.count(1) - 1));
            same(when + "door", () -> inn.door(room, other), () -> plain.door(room, other));
        } else if (kind == 3) {
            int fright = number(dice, 1, 1 + 2 * hauntings);
            int wakes = number(dice, 0, 11);
            int bed = number(dice, 1, 12);
            same(when + "haunt", () -> inn.haunt(room, fright, wakes, bed),
                    () -> plain.haunt(room, fright, wakes, bed));
        } else if (kind <= 5) {
            int coins = number(dice, 0, 1000);
            int beds = number(dice, 1, 4);
            int nerve = dice.from(0, 2) == 0 ? number(dice, -9, 90) : number(dice, -9, 20);
            same(when + "come", () -> inn.come(coins, beds, nerve), () -> plain.come(coins, beds, nerve));
        } else if (kind <= 18) {
            int price = number(dice, 1, dice.from(0, 1) == 0 ? 200 : 40);
            same(when + "bid", () -> inn.bid(guest, room, price), () -> plain.bid(guest, room, price));
        } else if (kind == 19) {
            same(when + "leave", () -> inn.leave(guest), () -> plain.leave(guest));
        } else if (kind <= 21) {
            same(when + "night", () -> inn.night(), () -> plain.night());
        } else {
            asks(when, dice, kind, new int[] {room, guest, ghost}, inn, plain);
        }
    }

    private static void asks(String when, Dice dice, int kind, int[] whom, GhostInn inn, PlainInn plain) {
        int what = number(dice, 0, 8);
        int hour = number(dice, -1, 11);
        if (kind == 22) {
            same(when + "at", () -> inn.at(whom[2], hour), () -> plain.at(whom[2], hour));
        } else if (kind == 23) {
            same(when + "haunting", () -> inn.haunting(whom[0], hour), () -> plain.haunting(whom[0], hour));
        } else if (kind == 24) {
            if (dice.from(0, 1) == 0) {
                same(when + "room", () -> inn.room(whom[0], what), () -> plain.room(whom[0], what));
            } else {
                same(when + "wins", () -> inn.wins(whom[0], what), () -> plain.wins(whom[0], what));
            }
        } else if (kind == 25) {
            same(when + "guest", () -> inn.guest(whom[1], what), () -> plain.guest(whom[1], what));
        } else if (kind == 26) {
            if (dice.from(0, 2) == 0) {
                same(when + "mean", inn::mean, plain::mean);
            } else {
                same(when + "count", () -> inn.count(what), () -> plain.count(what));
            }
        } else if (kind == 27) {
            same(when + "best", () -> inn.best(whom[1]), () -> plain.best(whom[1]));
        } else if (kind == 28) {
            same(when + "most", () -> inn.most(), () -> plain.most());
        } else {
            same(when + "scares", () -> inn.scares(whom[2]), () -> plain.scares(whom[2]));
        }
    }

    private static void same(String call, Supplier<Object> inn, Supplier<Object> plain) {
        Check.equal(call, answer(plain, "PlainInn"), answer(inn, "GhostInn"));
    }

    /** An exception that the class did not make itself is told apart: the machine may throw none. */
    private static String answer(Supplier<Object> call, String thrower) {
        try {
            return call.get().toString();
        } catch (RuntimeException e) {
            boolean own = e.getStackTrace()[0].getClassName().startsWith(thrower);
            return e.getClass().getSimpleName() + (own ? "" : " of the machine");
        }
    }
}
