/** Counts the answers of one test and prints those that are not as due. */
final class Due {
    private int asked = 0;
    private int wrong = 0;

    void is(String call, long want, long got) {
        asked++;
        if (got != want) {
            wrong++;
            if (wrong <= 50) {
                System.out.println(call + " answered " + got + ", due is " + want);
            }
        }
    }

    int asked() {
        return asked;
    }

    void holds(String what, boolean so) {
        is(what, 1, so ? 1 : 0);
    }

    /** A wrong answer ends the test with exit code 1. */
    void end(String test) {
        System.out.println(test + ": " + asked + " answers, " + wrong + " not as due");
        if (wrong != 0 || asked == 0) {
            System.exit(1);
        }
    }

    /** A new object to which a text is told; the text must be read without a FAULT. */
    PaidRests told(String text, int items) {
        PaidRests x = new PaidRests();
        is("score of " + text, items, tell(x, text));
        return x;
    }

    static int tell(PaidRests x, String text) {
        for (int i = 0; i < text.length(); i++) {
            x.type(text.charAt(i));
        }
        return x.score();
    }
}
