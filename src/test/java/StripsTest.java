/** Promises 1 to 5: the constructor, takeStrip, setLength, setUp, set. */
public final class StripsTest {
    private static final Due due = new Due("StripsTest");

    public static void main(String[] arguments) {
        newObject();
        takesStrip();
        takesLongestStrip();
        tellsFaults();
        faultChangesNothing();
        takeStripBeginsAnew();
        setsLength();
        refusesLength();
        setsUp();
        countsItsOwnUps();
        refusesUp();
        setsSettings();
        refusesSettings();
        due.close();
    }

    private static void newObject() {
        BendOrders press = new BendOrders();
        int[] counts = {1, 0, 0, 1, 1, 0, 10, 0, 6, 1, 1, 3, 0, 0};
        for (int what = 0; what < counts.length; what++) {
            due.is("new: count(" + what + ")", press.count(what), counts[what]);
        }
        due.is("new: lengthOf(0)", press.lengthOf(0), 5);
        due.is("new: lengthOf(1)", press.lengthOf(1), 5);
        due.is("new: lengthOf(2)", press.lengthOf(2), -1001);
        due.is("new: ofBend(0, 0)", press.ofBend(0, 0), 1);
        due.is("new: ofBend(0, 1)", press.ofBend(0, 1), 0);
        due.is("new: ofBend(1, 0)", press.ofBend(1, 0), -1001);
        due.is("new: undo()", press.undo(), -1005);
        due.is("new: restore()", press.restore(), -1005);
        due.is("new: takeStrip()", press.takeStrip(), -1100);
    }

    private static void takesStrip() {
        BendOrders press = new BendOrders();
        Due.type(press, "1u9d5");
        due.is("takeStrip()", press.takeStrip(), 2);
        due.is("its text stays", press.count(13), 5);
        due.is("its history", press.count(12), 1);
        due.is("its flange 0", press.lengthOf(0), 1);
        due.is("its flange 1", press.lengthOf(1), 9);
        due.is("its flange 2", press.lengthOf(2), 5);
        due.is("its flange 3", press.lengthOf(3), -1001);
        due.is("its bend 0", press.ofBend(0, 0), 1);
        due.is("its bend 1", press.ofBend(1, 0), 0);
        due.is("its bend 2", press.ofBend(2, 0), -1001);
        due.is("its whole length", press.count(6), 15);
        due.is("takeStrip() again is an act", press.takeStrip(), 2);
        due.is("its history then", press.count(12), 2);
        due.is("undo()", press.undo(), 1);
        due.is("undo()", press.undo(), 0);
        due.is("bends after undo", press.count(0), 1);
        due.is("lengths after undo", press.count(6), 10);
        due.is("the text after undo", press.count(13), 5);
    }

    private static void takesLongestStrip() {
        BendOrders press = new BendOrders();
        Due.type(press, "1u2u3d4d5u6u7d8");
        due.is("seven bends", press.takeStrip(), 7);
        due.is("their flanges", press.count(6), 36);
        int[] ups = {1, 1, 0, 0, 1, 1, 0};
        for (int bend = 0; bend < 7; bend++) {
            due.is("bend " + bend + " of seven", press.ofBend(bend, 0), ups[bend]);
        }
        for (int flange = 0; flange < 8; flange++) {
            due.is("flange " + flange + " of eight", press.lengthOf(flange), flange + 1);
        }
        due.is("the bend 7", press.ofBend(7, 0), -1001);
        due.is("the flange 8", press.lengthOf(8), -1001);
    }

    private static void tellsFaults() {
        String[] texts = {"", "0", "u", " 5u5", "5", "5x", "5U5", "55", "5u", "5u0", "5u:", "5uu", "5u5u", "5u5x",
            "5d5d5 ", "1u1u1u1u1u1u1u1u", "1u1u1u1u1u1u1u1u1", "1u1u1u1u1u1u1u11", "1u1u1u1u1u1u1u", "1u1u1u1u1u1u1u0",
            "\u00b5", "5\u0175", "5u\u0135"};
        int[] faults = {0, 0, 0, 0, 1, 1, 1, 1, 2, 2, 2, 2, 4, 3,
            5, 15, 15, 15, 14, 14,
            0, 1, 2};
        due.is("as many faults as texts", faults.length, texts.length);
        for (int i = 0; i < texts.length; i++) {
            BendOrders press = new BendOrders();
            Due.type(press, texts[i]);
            due.is("takeStrip() of '" + texts[i] + "'", press.takeStrip(), -1100 - faults[i]);
        }
    }

    private static void faultChangesNothing() {
        BendOrders press = Due.strip("3u4d2");
        press.bend(0);
        press.layOver();
        Due.type(press, "5u5u");
        due.is("takeStrip() with a fault", press.takeStrip(), -1104);
        due.is("its bends", press.count(0), 2);
        due.is("its done ones", press.count(1), 1);
        due.is("it lies over", press.count(2), 1);
        due.is("its history", press.count(12), 3);
        due.is("its length", press.count(6), 9);
        due.is("its text", press.count(13), 4);
    }

    private static void takeStripBeginsAnew() {
        BendOrders press = Due.strip("9u9");
        press.set(0, 12);
        due.is("bend(0)", press.bend(0), 1);
        press.layOver();
        due.is("takeStrip() of a bent strip", press.takeStrip(), 1);
        due.is("no bend is done", press.count(1), 0);
        due.is("it is not laid over", press.count(2), 0);
        due.is("its settings stay", press.count(8), 12);
        due.is("its bendings stay", press.count(7), 1);
        due.is("undo()", press.undo(), 3);
        due.is("the bend is done again", press.count(1), 1);
        due.is("it lies over again", press.count(2), 1);
    }

    private static void setsLength() {
        BendOrders press = new BendOrders();
        due.is("setLength(0, 1)", press.setLength(0, 1), 5);
        due.is("setLength(1, 9)", press.setLength(1, 9), 5);
        due.is("setLength(1, 2)", press.setLength(1, 2), 9);
        due.is("lengthOf(0)", press.lengthOf(0), 1);
        due.is("lengthOf(1)", press.lengthOf(1), 2);
        due.is("its history", press.count(12), 3);
        due.is("undo()", press.undo(), 2);
        due.is("lengthOf(1) after undo", press.lengthOf(1), 9);
    }

    private static void refusesLength() {
        BendOrders press = new BendOrders();
        due.is("setLength(-1, 5)", press.setLength(-1, 5), -1001);
        due.is("setLength(2, 5)", press.setLength(2, 5), -1001);
        due.is("setLength(2, 0): unknown first", press.setLength(2, 0), -1001);
        due.is("setLength(MIN, 5)", press.setLength(Integer.MIN_VALUE, 5), -1001);
        due.is("setLength(MAX, 5)", press.setLength(Integer.MAX_VALUE, 5), -1001);
        due.is("setLength(0, 0)", press.setLength(0, 0), -1002);
        due.is("setLength(0, 10)", press.setLength(0, 10), -1002);
        due.is("setLength(0, MIN)", press.setLength(0, Integer.MIN_VALUE), -1002);
        due.is("setLength(0, 5)", press.setLength(0, 5), -1005);
        due.is("its history", press.count(12), 0);
        press.bend(0);
        due.is("setLength(0, 10) of a bent strip", press.setLength(0, 10), -1002);
        due.is("setLength(0, 6) of a bent strip", press.setLength(0, 6), -1004);
        due.is("setLength(0, 5) of a bent strip", press.setLength(0, 5), -1004);
        due.is("its history", press.count(12), 1);
        due.is("its length", press.count(6), 10);
        press.flatten(0);
        due.is("setLength(0, 6) of a flat strip", press.setLength(0, 6), 5);
    }

    private static void setsUp() {
        BendOrders press = Due.strip("5u5d5u5");
        due.is("setUp(0, false)", press.setUp(0, false), 1);
        due.is("setUp(2, false)", press.setUp(2, false), 0);
        due.is("setUp(1, true)", press.setUp(1, true), 1);
        due.is("ofBend(0, 0)", press.ofBend(0, 0), 0);
        due.is("ofBend(1, 0)", press.ofBend(1, 0), 1);
        due.is("ofBend(2, 0)", press.ofBend(2, 0), 0);
        due.is("undo()", press.undo(), 3);
        due.is("ofBend(1, 0) after undo", press.ofBend(1, 0), 0);
        press.layOver();
        due.is("laid over: setUp(1, false)", press.setUp(1, false), -1005);
        due.is("laid over: setUp(1, true)", press.setUp(1, true), 1);
        due.is("laid over: ofBend(1, 0)", press.ofBend(1, 0), 1);
    }

    /** The up bends of a longer strip are not to be counted with those of a shorter one. */
    private static void countsItsOwnUps() {
        BendOrders press = Due.strip("5u5u5u5u5u5u5u5");
        Due.type(press, "5u5u5");
        press.takeStrip();
        due.is("setUp(0, false) of a shorter strip", press.setUp(0, false), 1);
        due.is("setUp(1, false) of a shorter strip", press.setUp(1, false), 0);
        press.undo();
        press.undo();
        press.undo();
        due.is("setUp(6, false) of the longer strip", press.setUp(6, false), 6);
    }

    private static void refusesUp() {
        BendOrders press = new BendOrders();
        due.is("setUp(-1, true)", press.setUp(-1, true), -1001);
        due.is("setUp(1, true)", press.setUp(1, true), -1001);
        due.is("setUp(MIN, true)", press.setUp(Integer.MIN_VALUE, true), -1001);
        due.is("setUp(32, false)", press.setUp(32, false), -1001);
        due.is("setUp(0, true)", press.setUp(0, true), -1005);
        due.is("its history", press.count(12), 0);
        press.bend(0);
        due.is("setUp(1, true) of a bent strip", press.setUp(1, true), -1001);
        due.is("setUp(0, true) of a bent strip", press.setUp(0, true), -1004);
        due.is("setUp(0, false) of a bent strip", press.setUp(0, false), -1004);
        due.is("ofBend(0, 0)", press.ofBend(0, 0), 1);
        due.is("its history", press.count(12), 1);
    }

    private static void setsSettings() {
        int[] first = {6, 1, 1, 3};
        int[] least = {1, 0, 0, 0};
        int[] most = {12, 3, 9, 9};
        for (int which = 0; which < 4; which++) {
            BendOrders press = new BendOrders();
            String set = "set(" + which + ", ";
            due.is(set + most[which] + ")", press.set(which, most[which]), first[which]);
            due.is("count(" + (8 + which) + ")", press.count(8 + which), most[which]);
            due.is(set + least[which] + ")", press.set(which, least[which]), most[which]);
            due.is(set + least[which] + ") again", press.set(which, least[which]), -1005);
            due.is(set + (most[which] + 1) + ")", press.set(which, most[which] + 1), -1002);
            due.is(set + (least[which] - 1) + ")", press.set(which, least[which] - 1), -1002);
            due.is("count(" + (8 + which) + ")", press.count(8 + which), least[which]);
            due.is("its history", press.count(12), 2);
            for (int other = 0; other < 4; other++) {
                int want = other == which ? least[which] : first[other];
                due.is("the setting " + other, press.count(8 + other), want);
            }
            due.is("undo()", press.undo(), 1);
            due.is("undo()", press.undo(), 0);
            due.is("count(" + (8 + which) + ") after undo", press.count(8 + which), first[which]);
        }
    }

    private static void refusesSettings() {
        BendOrders press = new BendOrders();
        due.is("set(-1, 1)", press.set(-1, 1), -1002);
        due.is("set(4, 1)", press.set(4, 1), -1002);
        due.is("set(MIN, 1)", press.set(Integer.MIN_VALUE, 1), -1002);
        due.is("set(MAX, 1)", press.set(Integer.MAX_VALUE, 1), -1002);
        due.is("set(0, MAX)", press.set(0, Integer.MAX_VALUE), -1002);
        due.is("set(3, MIN)", press.set(3, Integer.MIN_VALUE), -1002);
        due.is("its history", press.count(12), 0);
        press.bend(0);
        due.is("set(0, 7) of a bent strip", press.set(0, 7), 6);
    }
}
