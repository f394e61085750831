/** What the tests of the document's boundary cases share: the sentence that is looked at, and the runs it is tried on. */
final class Bounds {
    static final int BAD = HeelDance.BAD, STATE = HeelDance.STATE, FULL = HeelDance.FULL, NONE = HeelDance.NONE;
    /** As many as there may be, of two WOMEN and three MEN; 72 bytes. */
    static final String SIX_COUSINS = "cousins 0 0;cousins 0 1;cousins 0 2;cousins 1 0;cousins 1 1;cousins 1 2;";
    private static final String[] STAIRS = {"plain 0 0;", "plain 2 0;", "plain 4 0;", "plain 6 0;", "plain 8 0;"};
    private final Check check = new Check("BoundsTest");
    private final Doc doc;
    private String sentence;
    private int asked;

    Bounds(Doc doc) {
        this.doc = doc;
    }

    /** What comes next tries this sentence of the document. */
    void said(int section, String words) {
        closeSentence();
        sentence = section + " '" + words + "'";
        check.holds(sentence + " stands in the document, untried so far", doc.cite(section, words));
    }

    private void closeSentence() {
        if (sentence != null) check.holds(sentence + " is tried", asked > 0);
        asked = 0;
    }

    void due(String call, long got, long want) {
        asked++;
        check.due(sentence + ": " + call, got, want);
    }

    void holds(String what, boolean is) {
        asked++;
        check.holds(sentence + ": " + what, is);
    }

    void close() {
        closeSentence();
        for (String left : doc.uncited()) {
            check.holds("no test tries " + left, false);
        }
        check.close();
    }

    /** A new object. */
    Run nobody() {
        return new Run(this);
    }

    Run told(String text) {
        Check.told(text);
        return nobody().tells(text);
    }

    /** So many MEN that RANK, number and half their HEIGHT are the same, whatever is danced. */
    static String stairs(int men) {
        StringBuilder text = new StringBuilder();
        for (int m = 0; m < men; m++) {
            text.append(STAIRS[m]);
        }
        return text.toString();
    }

    /**
     * Something of all: four MEN, two COUSINS, three FIGURES, two SEEN as it is, IMAGE 0, one FIGURE danced behind it,
     * 9 bytes on THE TAPE, SHEET 0 of 3 bytes, 1 of 2 shorts, 2 of nothing, 3 of 4 ints; torn() is 2.
     */
    Run rich() {
        return told("plain 4 3;booted 5 1;bent 7 2;hearth 1 0;cousins 0 3;cousins 2 1;program up mirror down;")
            .makes("see(0, 1, 2)", "keep(0)", "alter(1, 3, 4)", "sheet(0, 0, 3)", "lay(0, 1, 3)", "sheet(1, 1, 2)",
                "lay(1, 0, 2)", "sheet(3, 2, 4)", "lay(3, 3, 1)", "read(0, 0, 2, 3)", "forget(0)", "see(0, 0, 2)",
                "see(1, 3, 0)")
            .feeds("plain9 8;");
    }
}
