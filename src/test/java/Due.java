/** Counts the answers of a test that are not as due. */
final class Due {
    private int asked = 0;
    private int wrong = 0;
    private String sentence = "";

    /** What is asked from here on belongs to this sentence; a quote that the document has not is wrong, too. */
    void sentence(String quote) {
        sentence = "'" + quote + "': ";
        holds("it stands in the document", Document.says(quote));
    }

    void is(String call, long got, long want) {
        asked++;
        if (got != want) {
            wrong++;
            System.out.println(sentence + call + " answered " + got + ", due is " + want);
        }
    }

    void holds(String what, boolean so) {
        is(what, so ? 1 : 0, 1);
    }

    void end() {
        System.out.println(asked + " answers, " + wrong + " not as due");
        if (wrong > 0 || asked == 0) {
            System.exit(1);
        }
    }
}
