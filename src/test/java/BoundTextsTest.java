/** The boundaries of texts (Terms: texts) and of the promises 2, 10 and 11. */
public final class BoundTextsTest {
    private static final Due due = new Due("BoundTextsTest");
    private static final String LONGEST = "1u2d3u4d5u6d7u9";

    public static void main(String[] arguments) {
        aTextHasAtMost60Characters();
        anyCharacterMayBeTyped();
        aLengthIsOneTo9();
        aBendIsUOrD();
        aTextThatEndsTooEarly();
        nothingIsAllowedBehindSevenBends();
        theFirstFaultIsTold();
        theFaultOfAFullText();
        clearTextEmptiesIt();
        textCallsAreNoActs();
        due.close();
    }

    private static void aTextHasAtMost60Characters() {
        BendOrders press = new BendOrders();
        for (int length = 1; length <= 60; length++) {
            due.is("type number " + length, press.type('u'), length);
            due.is("count(13)", press.count(13), length);
        }
        due.is("type number 61", press.type('u'), -1003);
        due.is("type number 62", press.type('1'), -1003);
        due.is("count(13) stays 60", press.count(13), 60);
        due.is("clearText()", press.clearText(), 60);
        due.is("count(13)", press.count(13), 0);
        due.is("type behind clearText()", press.type('9'), 1);
    }

    private static void anyCharacterMayBeTyped() {
        char[] edges = {0, 1, 9, 31, 32, '0', '1', '9', ':', 'd', 'u', 126, 127, 128, 255, 256, 32767, 32768, 65534,
            65535};
        BendOrders press = new BendOrders();
        for (int i = 0; i < edges.length; i++) {
            due.is("type(" + (int) edges[i] + ")", press.type(edges[i]), i + 1);
        }
        due.is("clearText()", press.clearText(), edges.length);
    }

    private static int faultOf(String text) {
        BendOrders press = new BendOrders();
        Due.type(press, text);
        return press.takeStrip();
    }

    /** "a length (1 to 9)": at each place of a length each of the first 300 characters, and some far ones. */
    private static void aLengthIsOneTo9() {
        for (int place = 0; place <= 14; place += 2) {
            String ahead = LONGEST.substring(0, place);
            for (int sign = 0; sign < 300; sign++) {
                int want = sign < '1' || sign > '9' ? -1100 - place : place == 0 ? -1101 : place / 2;
                due.is("the place " + place + ", the character " + sign, faultOf(ahead + (char) sign), want);
            }
            for (char sign : new char[] {256 + '1', 256 + '9', 32768 + '5', 0x0665, 0xff15, 65535}) {
                due.is("the place " + place + ", the character " + (int) sign, faultOf(ahead + sign), -1100 - place);
            }
        }
    }

    /** "u" or "d": at each place of a bend; the text then ends too early, or has its fault there. */
    private static void aBendIsUOrD() {
        for (int place = 1; place <= 13; place += 2) {
            String ahead = LONGEST.substring(0, place);
            for (int sign = 0; sign < 300; sign++) {
                int want = sign == 'u' || sign == 'd' ? -1100 - place - 1 : -1100 - place;
                due.is("the place " + place + ", the character " + sign, faultOf(ahead + (char) sign), want);
            }
            for (char sign : new char[] {256 + 'u', 256 + 'd', 32768 + 'u', 65535}) {
                due.is("the place " + place + ", the character " + (int) sign, faultOf(ahead + sign), -1100 - place);
            }
            due.is("a length at the place " + place, faultOf(ahead + "5u5"), -1100 - place);
        }
    }

    /** "the length of the text if it ends too early (the empty text does)": each beginning of the longest text. */
    private static void aTextThatEndsTooEarly() {
        int[] wants = {-1100, -1101, -1102, 1, -1104, 2, -1106, 3, -1108, 4, -1110, 5, -1112, 6, -1114, 7};
        for (int length = 0; length <= 15; length++) {
            String text = LONGEST.substring(0, length);
            due.is("takeStrip() of '" + text + "'", faultOf(text), wants[length]);
        }
    }

    private static void nothingIsAllowedBehindSevenBends() {
        for (String behind : new String[] {"", "u", "d", "1", "9", "x", "u1", "d9", "u1u1", " ", "\0"}) {
            int want = behind.isEmpty() ? 7 : -1115;
            due.is("takeStrip() of seven bends and '" + behind + "'", faultOf(LONGEST + behind), want);
        }
    }

    /** "the index of the first character that is not allowed at its place", however many follow. */
    private static void theFirstFaultIsTold() {
        for (int first = 0; first <= 14; first++) {
            StringBuilder text = new StringBuilder(LONGEST);
            for (int place = first; place < 15; place += 2) {
                text.setCharAt(place, place % 3 == 0 ? 'x' : '0');
            }
            due.is("takeStrip() of '" + text + "'", faultOf(text.toString()), -1100 - first);
            due.is("the same, and longer", faultOf(text + "u1u1u1"), -1100 - first);
            due.is("the same, cut", faultOf(text.substring(0, first + 1)), -1100 - first);
        }
    }

    private static void theFaultOfAFullText() {
        StringBuilder text = new StringBuilder();
        while (text.length() < 60) {
            text.append("1u");
        }
        due.is("takeStrip() of 60 good ones", faultOf(text.toString()), -1115);
        text.setCharAt(14, 'u');
        due.is("takeStrip() of 60, the fault at 14", faultOf(text.toString()), -1114);
        text.setCharAt(0, '0');
        due.is("takeStrip() of 60, the fault at 0", faultOf(text.toString()), -1100);
    }

    private static void clearTextEmptiesIt() {
        for (int length = 0; length <= 60; length++) {
            BendOrders press = new BendOrders();
            for (int i = 0; i < length; i++) {
                press.type(i % 2 == 0 ? '1' : 'u');
            }
            due.is("clearText() of " + length, press.clearText(), length);
            due.is("clearText() again", press.clearText(), 0);
            due.is("count(13)", press.count(13), 0);
            due.is("takeStrip() of none", press.takeStrip(), -1100);
            due.is("type('7')", press.type('7'), 1);
            due.is("what was behind is gone", press.takeStrip(), -1101);
        }
    }

    private static void textCallsAreNoActs() {
        BendOrders press = Script.made("o l0=1 l0=2");
        for (int i = 0; i < 61; i++) {
            press.type('1');
        }
        press.clearText();
        press.type('5');
        due.is("count(12)", press.count(12), 3);
        due.is("undo()", press.undo(), 2);
        due.is("lengthOf(0)", press.lengthOf(0), 1);
        due.is("undo() leaves the text", press.count(13), 1);
    }
}
