/** Compares answers with what is due, tells those that differ, and ends the test. */
final class Dues {
    private static final int MOST_TOLD = 50;

    private String sentence = "";
    private int looked;
    private int wrong;

    /** The sentence of the document that the answers from here on are looked at for. */
    void about(String words) {
        sentence = words + ": ";
    }

    void due(String call, long got, long want) {
        looked++;
        if (got == want) {
            return;
        }
        wrong++;
        if (wrong <= MOST_TOLD) {
            System.out.println(sentence + call + " answered " + got + ", due is " + want);
        }
    }

    void holds(String what, boolean is) {
        due(what, is ? 1 : 0, 1);
    }

    void end() {
        System.out.println(looked + " answers looked at, " + wrong + " not as due");
        if (wrong != 0 || looked == 0) {
            System.exit(1);
        }
    }
}
