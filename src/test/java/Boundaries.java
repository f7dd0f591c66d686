/** Tests of the document's boundary cases, each told with the words of the document that it stands for. */
abstract class Boundaries {
    final Check check;
    private final Document document;

    Boundaries(Check check, Document document) {
        this.check = check;
        this.document = document;
    }

    /** Numbers that are out of range where those from 0 to below the given one are in it. */
    static int[] outside(int end) {
        return new int[] {-1, end, Integer.MIN_VALUE, Integer.MAX_VALUE};
    }

    /** Runs the tests of this group. */
    abstract void all();

    /** Tests that would fail if these words, which the document says once, were broken. */
    void test(String words, Check.Call... tests) {
        check.standsFor(words);
        check.due("how often the document says this", document.mark(words), 1);
        for (Check.Call each : tests) {
            check.ends(each);
        }
    }
}
