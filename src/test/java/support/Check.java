/** Compares answers with those that are due, and ends the test by them. */
final class Check {
    private int wrong = 0;
    private int calls = 0;
    private String sentence = "";
    private int callsOfSentence = 0;

    /**
     * From here on the answers belong to this sentence of the document (its very words:
     * SentencesTest looks for them there); one that no answer belongs to is wrong.
     */
    void says(String words) {
        endSentence();
        sentence = words;
        callsOfSentence = 0;
    }

    void due(String call, long got, long want) {
        calls++;
        callsOfSentence++;
        if (got != want) {
            wrong++;
            if (wrong <= 40) {
                System.out.println(call + " answered " + got + ", due is " + want
                    + (sentence.isEmpty() ? "" : " [" + sentence + "]"));
            }
        }
    }

    static void write(OverAndBack x, String text) {
        for (int p = 0; p < text.length(); p++) {
            x.write(text.charAt(p));
        }
    }

    /** A new object on which the text is laid. */
    OverAndBack laid(String text) {
        OverAndBack x = new OverAndBack();
        write(x, text);
        if (x.lay() < 0) {
            due("lay of " + text, x.lay(), 1);
        }
        return x;
    }

    void end() {
        endSentence();
        System.out.println(calls + " answers looked at, " + wrong + " wrong");
        if (wrong != 0 || calls == 0) {
            System.exit(1);
        }
    }

    private void endSentence() {
        if (!sentence.isEmpty() && callsOfSentence == 0) {
            wrong++;
            System.out.println("no answer belongs to [" + sentence + "]");
        }
    }
}
