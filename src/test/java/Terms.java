/** Sentences of the document that bind more than one promise. */
final class Terms {
    static final String HEAD = "Terms";
    static final String CHANGES_NOTHING = "A method that throws an exception changes nothing.";
    static final String FIRST_NAMED = "If several exceptions apply, the one that is named first is thrown.";

    private Terms() {
    }
}
