import java.util.function.Consumer;
import java.util.function.Supplier;

/** Refused calls: what one throws, and that its inn is as a twin that was made alike and never got the call. */
final class Refusal {
    private Refusal() {
    }

    static void index(Supplier<GhostInn> made, String name, Consumer<GhostInn> call) {
        refused(IndexOutOfBoundsException.class, made, name, call);
    }

    static void argument(Supplier<GhostInn> made, String name, Consumer<GhostInn> call) {
        refused(IllegalArgumentException.class, made, name, call);
    }

    static void state(Supplier<GhostInn> made, String name, Consumer<GhostInn> call) {
        refused(IllegalStateException.class, made, name, call);
    }

    private static void refused(Class<? extends RuntimeException> due, Supplier<GhostInn> made, String name,
            Consumer<GhostInn> call) {
        GhostInn inn = made.get();
        GhostInn twin = made.get();
        Check.throwsItself(due, name, () -> call.accept(inn));
        Check.equal(name + " changes nothing", Look.at(twin), Look.at(inn));
        Check.equal(name + " changes nothing of later answers", Look.later(twin), Look.later(inn));
    }
}
