/** Counts the answers of a test and tells those that are not as due. */
final class Due {
    private final String test;
    private int asked = 0;
    private int wrong = 0;

    Due(String test) {
        this.test = test;
    }

    void is(String call, long got, long want) {
        asked++;
        if (got != want) {
            wrong++;
            System.out.println(test + ": " + call + " answered " + got + ", due is " + want);
        }
    }

    void holds(String what, boolean held) {
        asked++;
        if (!held) {
            wrong++;
            System.out.println(test + ": does not hold: " + what);
        }
    }

    int wrong() {
        return wrong;
    }

    /** Ends the program, with 1 if an answer was wrong or none was asked for. */
    void close() {
        System.out.println(test + ": " + asked + " answers, " + wrong + " not as due");
        System.exit(wrong == 0 && asked > 0 ? 0 : 1);
    }

    static void type(BendOrders press, String text) {
        press.clearText();
        for (int i = 0; i < text.length(); i++) {
            press.type(text.charAt(i));
        }
    }

    static BendOrders strip(String text) {
        BendOrders press = new BendOrders();
        type(press, text);
        int bends = press.takeStrip();
        if (bends != text.length() / 2) {
            throw new IllegalStateException("the strip " + text + " was not taken: " + bends);
        }
        return press;
    }
}
