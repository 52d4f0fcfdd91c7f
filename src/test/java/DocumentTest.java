import java.io.IOException;
import java.nio.file.Files;
import java.nio.file.Path;
import java.util.HashSet;
import java.util.LinkedHashSet;
import java.util.Set;

/** Each sentence of the promises and the terms has a test of its own, which quotes it, or names no edge. */
final class DocumentTest {
    /** What names a number without telling its bounds, or tells what the sentences behind it tell. */
    private static final Set<String> WITHOUT_EDGE = Set.of(
            "Promise 2: furnish / Furnishes a room.",
            "Promise 2: furnish / its beds",
            "Promise 2: furnish / its comfort",
            "Promise 2: furnish / its least price",
            "Promise 3: door / Makes a door.",
            "Promise 3: door / a room",
            "Promise 4: haunt / where a new ghost is at home",
            "Promise 4: haunt / its fright",
            "Promise 4: haunt / the hour in which it wakes",
            "Promise 4: haunt / the hour in which it goes to bed",
            "Promise 5: at / a ghost",
            "Promise 5: at / an hour",
            "Promise 6: haunting / a room",
            "Promise 7: room / a room",
            "Promise 7: room / Returns this.",
            "Promise 8: come / the coins of a new guest",
            "Promise 8: come / the beds that are needed",
            "Promise 8: come / the nerve",
            "Promise 9: bid / the guest",
            "Promise 9: bid / the room",
            "Promise 9: bid / the price",
            "Promise 10: leave / a guest",
            "Promise 11: guest / a guest",
            "Promise 11: guest / Returns this.",
            "Promise 12: wins / a room",
            "Promise 12: wins / Returns this.",
            "Promise 14: count / Returns this.",
            "Promise 15: best / a guest",
            "Promise 17: scares / a ghost",
            "Promise 19: digest / Computes a checksum.",
            "Promise 19: digest / Returns d.",
            "Terms / A night goes like this:",
            "What it is / An inn with ghosts, whose rooms are let by silent auctions.");

    public static void main(String[] args) throws IOException {
        Set<String> document = sentences(Files.readString(Path.of("../shared/DOC.md")));
        Set<String> tested = new LinkedHashSet<>();
        for (Sentence sentence : Sentences.all()) {
            tested.add(sentence.head + " / " + sentence.words);
        }
        for (String sentence : document) {
            boolean known = tested.contains(sentence) || WITHOUT_EDGE.contains(sentence);
            Check.equal("a test of: " + sentence, true, known);
        }
        for (String sentence : tested) {
            Check.equal("in the document: " + sentence, true, document.contains(sentence));
            Check.equal("both tested and without an edge: " + sentence, false, WITHOUT_EDGE.contains(sentence));
        }
        Set<String> gone = new HashSet<>(WITHOUT_EDGE);
        gone.removeAll(document);
        Check.equal("without an edge, and not in the document", "[]", gone.toString());
        Check.end();
    }

    /** With the head ahead of each. */
    private static Set<String> sentences(String document) {
        Set<String> sentences = new LinkedHashSet<>();
        String head = "";
        for (String line : document.split("\n")) {
            if (line.startsWith("## ")) {
                head = line.substring(3);
            } else if (head.matches("What it is|Terms|Promise .*") && !line.startsWith("```")) {
                String text = line.trim().replaceFirst("^`[^`]*`: ", "").replaceFirst("^- `\\w+`: ", "")
                        .replaceFirst("^\\d\\. ", "").replaceFirst("^(Rooms|Ghosts|Guests|Bids)\\. ", "");
                addEach(sentences, head, text);
            }
        }
        return sentences;
    }

    private static void addEach(Set<String> sentences, String head, String text) {
        boolean aboutTheText = text.startsWith("Ahead of the calls ")
                || text.startsWith("Guests write bids for a night, ");
        if (text.isEmpty() || aboutTheText) {
            return;
        }
        for (String sentence : text.split("(?<=\\.) (?=[A-Z])")) {
            sentences.add(head + " / " + sentence);
        }
    }
}
