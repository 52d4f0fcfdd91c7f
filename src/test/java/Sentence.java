import java.util.ArrayList;
import java.util.List;

/** A sentence of the document, an edge that it names, the test of this edge, and ways to break it in the class. */
final class Sentence {
    final String head;
    final String words;
    final String edge;
    private final Runnable test;
    private final List<Break> breaks = new ArrayList<>();

    /** The head and the words as they stand in the document. */
    Sentence(String head, String words, String edge, Runnable test) {
        this.head = head;
        this.words = words;
        this.edge = edge;
        this.test = test;
    }

    /** With this one text of the class's method written otherwise, the test has to tell a wrong answer. */
    Sentence brokenIn(String method, String text, String otherwise) {
        breaks.add(new Break(method, text, otherwise));
        return this;
    }

    /** Each end of these bounds, as the class's method writes them, moved by one, inwards and outwards. */
    Sentence brokenBounds(String method, String number, int least, int most) {
        String text = within(number, least, most);
        brokenIn(method, text, within(number, least - 1, most));
        brokenIn(method, text, within(number, least + 1, most));
        brokenIn(method, text, within(number, least, most - 1));
        return brokenIn(method, text, within(number, least, most + 1));
    }

    /** Something is changed ahead of each throw of the class's method that stands behind one of these texts. */
    Sentence brokenAheadOf(String method, String... texts) {
        for (String text : texts) {
            brokenIn(method, text, "nightsGone++;\n" + text);
        }
        return this;
    }

    private static String within(String number, int least, int most) {
        return "within(" + number + ", " + least + ", " + most + ")";
    }

    List<Break> breaks() {
        return breaks;
    }

    int wrongAnswers() {
        return Check.wrongIn(toString(), test);
    }

    /** The main method of a file of sentences: each one's test, with a line of its own. */
    static void testAll(List<Sentence> sentences) {
        for (Sentence sentence : sentences) {
            int wrong = sentence.wrongAnswers();
            System.out.println((wrong == 0 ? "holds   " : "BROKEN  ") + sentence);
        }
        Check.end();
    }

    @Override
    public String toString() {
        return head + ", \"" + words + "\": " + edge;
    }

    /** A text of one of the class's methods, and what is written in its place. */
    record Break(String method, String text, String otherwise) {
        String in(String source) {
            int start = startOfMethod(source);
            String end = "\n" + " ".repeat(indentAt(source, start)) + "}\n";
            int stop = source.indexOf(end, start);
            String body = source.substring(start, stop);
            int place = body.indexOf(text);
            if (place < 0 || body.indexOf(text, place + 1) >= 0) {
                throw new IllegalStateException("not just once in " + method + ": " + text);
            }
            String broken = body.substring(0, place) + otherwise + body.substring(place + text.length());
            return source.substring(0, start) + broken + source.substring(stop);
        }

        private int startOfMethod(String source) {
            int start = 0;
            for (String line : source.split("\n")) {
                boolean declares = line.matches(" {4,8}[a-zA-Z\\[\\]<> ]*\\b" + method + "\\(.*")
                        && !line.contains(";") && !line.contains("return ") && !line.contains(" new ");
                if (declares) {
                    return start;
                }
                start += line.length() + 1;
            }
            throw new IllegalStateException("no method " + method);
        }

        private static int indentAt(String source, int start) {
            int indent = 0;
            while (source.charAt(start + indent) == ' ') {
                indent++;
            }
            return indent;
        }
    }
}
