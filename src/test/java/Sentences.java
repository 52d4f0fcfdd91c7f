import java.util.ArrayList;
import java.util.List;

/** All sentences of the document that have a test of their own. */
public final class Sentences {
    private Sentences() {
    }

    static List<Sentence> all() {
        List<Sentence> all = new ArrayList<>();
        all.addAll(CallsEdgesTest.all());
        all.addAll(P01NewObjectEdgesTest.all());
        all.addAll(P02FurnishEdgesTest.all());
        all.addAll(P03DoorEdgesTest.all());
        all.addAll(P04HauntEdgesTest.all());
        all.addAll(P05AtEdgesTest.all());
        all.addAll(P06HauntingEdgesTest.all());
        all.addAll(P07RoomEdgesTest.all());
        all.addAll(P08ComeEdgesTest.all());
        all.addAll(P09BidEdgesTest.all());
        all.addAll(P10LeaveEdgesTest.all());
        all.addAll(P11GuestEdgesTest.all());
        all.addAll(P12WinsEdgesTest.all());
        all.addAll(P13NightEdgesTest.all());
        all.addAll(P14CountEdgesTest.all());
        all.addAll(P15BestEdgesTest.all());
        all.addAll(P16MostEdgesTest.all());
        all.addAll(P17ScaresEdgesTest.all());
        all.addAll(P18MeanEdgesTest.all());
        all.addAll(P19DigestEdgesTest.all());
        return all;
    }

    /** For the broken inns, each of which is asked in a class loader of its own. */
    public static int wrongAnswersOf(int number) {
        return all().get(number).wrongAnswers();
    }
}
