/** Counts the answers that are not as due and ends the program with exit code 1 if there were some. */
final class Due {
    private static int wrong = 0;
    private static int asked = 0;
    private static int askedBefore = 0;
    private static String tested = "";

    private Due() {
    }

    /** What is asked from here on belongs to this sentence of the document, which is told with a wrong answer. */
    static void sentence(String words) {
        endSentence();
        tested = words;
        askedBefore = asked;
    }

    private static void endSentence() {
        if (!tested.isEmpty() && asked == askedBefore) {
            wrong++;
            System.out.println("nothing was asked for: " + tested);
        }
    }

    static void is(String what, Object got, Object want) {
        asked++;
        if (!want.equals(got)) {
            wrong++;
            System.out.println(what + " answered " + got + ", due is " + want + (tested.isEmpty() ? "" : ": " + tested));
        }
    }

    static void end() {
        endSentence();
        if (asked == 0 || wrong > 0) {
            System.out.println(wrong + " of " + asked + " answers are not as due");
            System.exit(1);
        }
    }
}
