/** Promises 10 and 11: type, clearText. */
public final class TextsTest {
    private static final Due due = new Due("TextsTest");

    public static void main(String[] arguments) {
        types();
        typesAnyCharacter();
        fills();
        clears();
        isNoState();
        due.close();
    }

    private static void types() {
        BendOrders press = new BendOrders();
        due.is("type('5')", press.type('5'), 1);
        due.is("type('u')", press.type('u'), 2);
        due.is("type('4')", press.type('4'), 3);
        due.is("count(13)", press.count(13), 3);
        due.is("it is no act", press.count(12), 0);
        due.is("takeStrip()", press.takeStrip(), 1);
        due.is("typed behind: lengthOf(1)", press.lengthOf(1), 4);
        due.is("type('d')", press.type('d'), 4);
        due.is("type('3')", press.type('3'), 5);
        due.is("takeStrip()", press.takeStrip(), 2);
        due.is("typed behind: lengthOf(2)", press.lengthOf(2), 3);
    }

    private static void typesAnyCharacter() {
        BendOrders press = new BendOrders();
        char[] characters = {0, ' ', '\n', 127, 255, 256, 0xd800, 0xffff};
        for (int i = 0; i < characters.length; i++) {
            due.is("type(" + (int) characters[i] + ")", press.type(characters[i]), i + 1);
        }
        due.is("takeStrip()", press.takeStrip(), -1100);
    }

    private static void fills() {
        BendOrders press = new BendOrders();
        for (int i = 1; i <= 60; i++) {
            due.is("type number " + i, press.type(i % 2 == 1 ? '1' : 'd'), i);
        }
        due.is("type number 61", press.type('1'), -1003);
        due.is("count(13)", press.count(13), 60);
        due.is("takeStrip() of 60", press.takeStrip(), -1115);
        due.is("clearText() of 60", press.clearText(), 60);
        due.is("type behind it", press.type('1'), 1);
    }

    private static void clears() {
        BendOrders press = new BendOrders();
        due.is("clearText() of none", press.clearText(), 0);
        Due.type(press, "7u7d7");
        due.is("clearText()", press.clearText(), 5);
        due.is("count(13)", press.count(13), 0);
        due.is("clearText() again", press.clearText(), 0);
        due.is("takeStrip() of none", press.takeStrip(), -1100);
        due.is("type('3')", press.type('3'), 1);
        due.is("nothing of the old text is left", press.takeStrip(), -1101);
        due.is("it is no act", press.count(12), 0);
    }

    private static void isNoState() {
        BendOrders press = new BendOrders();
        press.type('1');
        press.keep();
        press.layOver();
        press.type('u');
        press.undo();
        due.is("undo() leaves the text", press.count(13), 2);
        press.type('2');
        press.restore();
        due.is("restore() leaves the text", press.count(13), 3);
        due.is("takeStrip()", press.takeStrip(), 1);
    }
}
