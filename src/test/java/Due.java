/** Compares answers with those that are due, tells each wrong one, and ends a test. */
final class Due {
    private final String test;
    private int asked = 0;
    private int wrong = 0;
    private String sentence = "";
    private int askedAhead = 0;

    Due(String test) {
        this.test = test;
    }

    /** What is asked from here on is asked for these words of the document. */
    void sentence(String words) {
        endSentence();
        sentence = " [" + words + "]";
    }

    /** A sentence for which nothing was asked has no test. */
    private void endSentence() {
        if (!sentence.isEmpty() && asked == askedAhead) {
            wrong++;
            System.out.println(test + ": nothing was asked for" + sentence);
        }
        askedAhead = asked;
    }

    void is(String call, long got, long want) {
        asked++;
        if (got != want) {
            wrong++;
            System.out.println(test + ": " + call + " answered " + got + ", due is " + want + sentence);
        }
    }

    void isTrue(String what, boolean so) {
        is(what, so ? 1 : 0, 1);
    }

    /** element must throw: 1 an IllegalArgumentException, 2 an IllegalStateException. */
    void throwsAt(HatsOfTheWind x, int d, int i, int want) {
        int thrown = 0;
        try {
            x.element(d, i);
        } catch (IllegalArgumentException e) {
            thrown = 1;
        } catch (IllegalStateException e) {
            thrown = 2;
        }
        is("element(" + d + ", " + i + ") throws", thrown, want);
    }

    void end() {
        endSentence();
        System.out.println(test + ": " + asked + " asked, " + wrong + " wrong");
        if (wrong != 0 || asked == 0) {
            System.exit(1);
        }
    }

    /** Lays a text on a shelf, a byte a sign. */
    static void lay(HatsOfTheWind x, int d, String text) {
        x.row(d, 0, text.length());
        for (int i = 0; i < text.length(); i++) {
            x.put(d, i, text.charAt(i));
        }
    }

    static void layRow(HatsOfTheWind x, int d, int sort, int... elements) {
        x.row(d, sort, elements.length);
        for (int i = 0; i < elements.length; i++) {
            x.put(d, i, elements[i]);
        }
    }

    /** A new object on which the text came without a fault. */
    static HatsOfTheWind street(String text) {
        HatsOfTheWind x = new HatsOfTheWind();
        lay(x, 7, text);
        int answer = x.street(7);
        if (answer < 0) {
            throw new IllegalArgumentException(text + " answered " + answer);
        }
        x.keep(7, 0, 0, 0);
        return x;
    }
}
