/** Compares answers with those that are due, prints those that are not, and ends the test. */
final class Due {
    private String words = "";
    private int sentences;
    private int checks;
    private int wrong;

    /** The document's words that the answers behind this call hold to. */
    void sentence(String words) {
        this.words = "\"" + words + "\": ";
        sentences++;
    }

    void is(String call, long got, long want) {
        note(call, got == want, Long.toString(got), Long.toString(want));
    }

    void real(String call, double got, double want) {
        note(call, Double.compare(got, want) == 0, Double.toString(got), Double.toString(want));
    }

    void text(String what, String got, String want) {
        note(what, got.equals(want), got, want);
    }

    void yes(String call, boolean got) {
        note(call, got, "false", "true");
    }

    void no(String call, boolean got) {
        note(call, !got, "true", "false");
    }

    boolean allWell() {
        return wrong == 0;
    }

    void end() {
        String of = sentences == 0 ? "" : sentences + " sentences, ";
        System.out.println(of + checks + " answers, " + wrong + " not as due");
        if (wrong != 0 || checks == 0) {
            System.exit(1);
        }
    }

    private void note(String call, boolean right, String got, String want) {
        checks++;
        if (!right) {
            wrong++;
            System.out.println(words + call + " answered " + got + ", due is " + want);
        }
    }
}
