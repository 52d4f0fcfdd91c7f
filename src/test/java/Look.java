import java.util.function.Supplier;

/** All that an inn tells, in at most 393 calls, so that of its 512 calls some hundred are left for others. */
final class Look {
    private Look() {
    }

    static String at(GhostInn inn) {
        StringBuilder seen = new StringBuilder();
        int[] counts = new int[9];
        for (int what = 0; what < 9; what++) {
            counts[what] = inn.count(what);
            seen.append(" count ").append(counts[what]);
        }
        for (int room = 0; room < counts[1]; room++) {
            lookAtRoom(inn, room, seen);
        }
        for (int ghost = 0; ghost < counts[3]; ghost++) {
            seen.append("\nghost ").append(ghost);
            for (int hour = 0; hour < 12; hour++) {
                seen.append(' ').append(inn.at(ghost, hour));
            }
            seen.append(" scares ").append(inn.scares(ghost));
        }
        for (int guest = 0; guest < counts[4]; guest++) {
            seen.append("\nguest ").append(guest);
            for (int what = 0; what < 7; what++) {
                seen.append(' ').append(inn.guest(guest, what));
            }
            seen.append(" best ").append(inn.best(guest));
        }
        return seen.append("\nmost ").append(inn.most()).append(" mean ").append(inn.mean())
                .append(" digest ").append(inn.digest()).toString();
    }

    private static void lookAtRoom(GhostInn inn, int room, StringBuilder seen) {
        seen.append("\nroom ").append(room);
        for (int what = 0; what < 6; what++) {
            seen.append(' ').append(inn.room(room, what));
        }
        for (int what = 0; what < 3; what++) {
            seen.append(' ').append(inn.wins(room, what));
        }
        for (int hour = -1; hour < 12; hour++) {
            seen.append(' ').append(inn.haunting(room, hour));
        }
    }

    /** What the inn answers to some calls that change it: so also what no call tells is looked at. */
    static String later(GhostInn inn) {
        StringBuilder heard = new StringBuilder();
        hear(heard, () -> inn.furnish(6, 9, 2));
        hear(heard, () -> inn.door(0, 2));
        hear(heard, () -> inn.haunt(0, 2, 3, 9));
        hear(heard, () -> inn.come(77, 1, 3));
        hear(heard, () -> inn.bid(0, 0, 60));
        hear(heard, () -> inn.leave(1));
        hear(heard, inn::night);
        hear(heard, inn::digest);
        return heard.toString();
    }

    private static void hear(StringBuilder heard, Supplier<Object> call) {
        try {
            heard.append(' ').append(call.get());
        } catch (RuntimeException e) {
            heard.append(' ').append(e.getClass().getSimpleName());
        }
    }
}
