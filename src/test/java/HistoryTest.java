/** Promises 12 to 14: undo, keep, restore. */
public final class HistoryTest {
    private static final Due due = new Due("HistoryTest");

    public static void main(String[] arguments) {
        undoes();
        dropsTheOldest();
        recordsAgainBehindUndo();
        recordsActsAlone();
        undoesEverything();
        keeps();
        restores();
        restoresEverything();
        due.close();
    }

    private static void undoes() {
        BendOrders press = new BendOrders();
        due.is("undo() of none", press.undo(), -1005);
        press.setLength(0, 6);
        press.setLength(0, 7);
        due.is("undo()", press.undo(), 1);
        due.is("lengthOf(0)", press.lengthOf(0), 6);
        due.is("undo()", press.undo(), 0);
        due.is("lengthOf(0)", press.lengthOf(0), 5);
        due.is("undo() of none", press.undo(), -1005);
        due.is("lengthOf(0)", press.lengthOf(0), 5);
    }

    private static void dropsTheOldest() {
        BendOrders press = new BendOrders();
        for (int length = 1; length <= 4; length++) {
            press.setLength(0, length);
            due.is("count(12)", press.count(12), length);
        }
        press.setLength(0, 8);
        press.setLength(0, 9);
        due.is("count(12) at most", press.count(12), 4);
        int[] lengths = {8, 4, 3, 2};
        for (int i = 0; i < 4; i++) {
            due.is("undo()", press.undo(), 3 - i);
            due.is("lengthOf(0)", press.lengthOf(0), lengths[i]);
        }
        due.is("undo() of none", press.undo(), -1005);
        due.is("lengthOf(0)", press.lengthOf(0), 2);
    }

    private static void recordsAgainBehindUndo() {
        BendOrders press = new BendOrders();
        for (int length = 1; length <= 4; length++) {
            press.setLength(0, length);
        }
        press.setLength(1, 1);
        press.undo();
        press.undo();
        due.is("lengthOf(0)", press.lengthOf(0), 3);
        press.setLength(0, 9);
        press.layOver();
        press.layOver();
        due.is("count(12)", press.count(12), 4);
        press.undo();
        press.undo();
        due.is("lengthOf(0)", press.lengthOf(0), 9);
        due.is("undo()", press.undo(), 1);
        due.is("lengthOf(0)", press.lengthOf(0), 3);
        due.is("undo()", press.undo(), 0);
        due.is("lengthOf(0)", press.lengthOf(0), 2);
    }

    private static void recordsActsAlone() {
        BendOrders press = Due.strip("9u9");
        press.bend(0);
        due.is("count(12)", press.count(12), 2);
        press.setLength(0, 3);
        press.setLength(5, 3);
        press.setUp(0, false);
        press.set(0, 6);
        press.set(0, 99);
        press.bend(0);
        press.flatten(3);
        press.follow(1);
        press.restore();
        press.type('x');
        press.takeStrip();
        press.clearText();
        press.keep();
        press.ofBend(0, 2);
        press.end(0, 0, true);
        press.strikers(0);
        press.order(0);
        press.orders();
        press.mustWait(0, 0);
        press.count(5);
        due.is("count(12) behind what is no act", press.count(12), 2);
        due.is("restore()", press.restore(), 1);
        due.is("count(12) behind restore()", press.count(12), 3);
    }

    private static void undoesEverything() {
        BendOrders press = Due.strip("9u8d7");
        press.set(0, 12);
        press.set(1, 3);
        press.set(2, 2);
        press.set(3, 9);
        press.bend(0);
        press.layOver();
        Due.type(press, "1d1");
        press.takeStrip();
        due.is("undo()", press.undo(), 3);
        int[] counts = {2, 1, 1, 1, 2, 0, 24, 1, 12, 3, 2, 9, 3, 3};
        for (int what = 0; what < counts.length; what++) {
            due.is("count(" + what + ") after undo", press.count(what), counts[what]);
        }
        due.is("ofBend(0, 0)", press.ofBend(0, 0), 1);
        due.is("ofBend(1, 0)", press.ofBend(1, 0), 0);
        due.is("lengthOf(1)", press.lengthOf(1), 8);
    }

    private static void keeps() {
        BendOrders press = Due.strip("9u9u9");
        due.is("keep()", press.keep(), 0);
        press.bend(0);
        due.is("keep() in its place", press.keep(), 1);
        press.bend(1);
        due.is("keep()", press.keep(), 2);
        due.is("it is no act", press.count(12), 3);
        press.undo();
        press.undo();
        due.is("restore()", press.restore(), 2);
    }

    private static void restores() {
        BendOrders press = Due.strip("9u9");
        due.is("restore() of none", press.restore(), -1005);
        due.is("its history", press.count(12), 1);
        press.keep();
        press.bend(0);
        press.layOver();
        due.is("restore()", press.restore(), 0);
        due.is("count(2)", press.count(2), 0);
        due.is("bendings are of the state", press.count(7), 0);
        due.is("its history is not", press.count(12), 4);
        due.is("undo()", press.undo(), 3);
        due.is("count(1)", press.count(1), 1);
        due.is("count(2)", press.count(2), 1);
        due.is("bendings", press.count(7), 1);
        due.is("restore(), which stays", press.restore(), 0);
        press.setLength(0, 1);
        due.is("restore() again", press.restore(), 0);
        due.is("lengthOf(0)", press.lengthOf(0), 9);
        due.is("restore() of the same is an act", press.restore(), 0);
        due.is("undo()", press.undo(), 3);
        due.is("undo()", press.undo(), 2);
        due.is("lengthOf(0)", press.lengthOf(0), 1);
    }

    private static void restoresEverything() {
        BendOrders press = Due.strip("1d2u3u9d5");
        press.set(3, 7);
        press.set(2, 0);
        press.layOver();
        press.bend(3);
        press.keep();
        Due.type(press, "5u5");
        press.takeStrip();
        press.set(0, 1);
        press.set(1, 0);
        press.set(2, 9);
        press.set(3, 0);
        due.is("restore()", press.restore(), 1);
        int[] counts = {4, 1, 1, 1, 1, 1, 20, 1, 6, 1, 0, 7, 4, 3};
        for (int what = 0; what < counts.length; what++) {
            if (what < 3 || what > 5) {
                due.is("count(" + what + ") after restore", press.count(what), counts[what]);
            }
        }
        int[] lengths = {1, 2, 3, 9, 5};
        for (int flange = 0; flange < 5; flange++) {
            due.is("lengthOf(" + flange + ")", press.lengthOf(flange), lengths[flange]);
        }
        int[] ups = {0, 1, 1, 0};
        for (int bend = 0; bend < 4; bend++) {
            due.is("ofBend(" + bend + ", 0)", press.ofBend(bend, 0), ups[bend]);
            due.is("ofBend(" + bend + ", 1)", press.ofBend(bend, 1), bend == 3 ? 1 : 0);
        }
    }
}
