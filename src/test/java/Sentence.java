/** A sentence of the document with the test that is its own. */
final class Sentence {
    private Sentence() {}

    /** An exception that is not due ends this test alone, so that the others still tell what they find. */
    static void holds(String sentence, Check.Call test) {
        int before = Check.faults();
        try {
            test.run();
        } catch (RuntimeException e) {
            Check.fault("a call throws " + e + ", due is no exception");
        }
        if (Check.faults() != before) {
            System.out.println("    broken is: " + sentence);
        }
    }
}
