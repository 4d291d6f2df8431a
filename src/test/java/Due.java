/** Holds answers against those that are due, and ends a test with exit code 1 if one was wrong. */
final class Due {
    interface Call {
        Object answer();
    }

    private final String test;
    private String sentence = "";
    private int checks;
    private int checksOfSentence = 1;
    private int wrong;

    Due(String test) {
        this.test = test;
    }

    /** What is checked from here on is due by this sentence of the document, in its own words. */
    void sentence(String words) {
        endSentence();
        sentence = words;
        checksOfSentence = 0;
    }

    private void endSentence() {
        if (checksOfSentence == 0) {
            wrong++;
            System.out.println(test + ": nothing was checked of: " + sentence);
        }
    }

    void is(String call, Object got, Object want) {
        checks++;
        checksOfSentence++;
        if (!want.equals(got)) {
            wrong++;
            System.out.println(test + ": " + call + " answered " + got + ", due is " + want
                    + (sentence.isEmpty() ? "" : " (" + sentence + ")"));
        }
    }

    /** The call throws just this exception, no kind of it, and changes nothing. */
    void refuses(GhostCandles house, String call, Class<? extends RuntimeException> due, Call made) {
        long before = house.digest();
        is(call, answerOrThrown(made), "throws " + due.getSimpleName());
        is("digest() behind " + call, house.digest(), before);
    }

    void outOfBounds(GhostCandles house, String call, Call made) {
        refuses(house, call, IndexOutOfBoundsException.class, made);
    }

    void badArgument(GhostCandles house, String call, Call made) {
        refuses(house, call, IllegalArgumentException.class, made);
    }

    void badState(GhostCandles house, String call, Call made) {
        refuses(house, call, IllegalStateException.class, made);
    }

    static Object answerOrThrown(Call made) {
        try {
            return made.answer();
        } catch (RuntimeException e) {
            return "throws " + e.getClass().getSimpleName();
        }
    }

    void end() {
        endSentence();
        if (checks == 0 || wrong > 0) {
            System.out.println(test + ": " + wrong + " of " + checks + " answers are not as due");
            System.exit(1);
        }
        System.out.println(test + ": all " + checks + " answers are as due");
    }
}
