/** Promises 6 to 9: layOver, bend, flatten, follow. */
public final class BendingTest {
    private static final Due due = new Due("BendingTest");

    public static void main(String[] arguments) {
        laysOver();
        bends();
        refusesBends();
        flattens();
        flattensInside();
        followsWhole();
        followsStepByStep();
        followsFromMidway();
        refusesToFollow();
        due.close();
    }

    private static void laysOver() {
        BendOrders press = new BendOrders();
        due.is("layOver()", press.layOver(), 1);
        due.is("count(2)", press.count(2), 1);
        due.is("layOver() back", press.layOver(), 0);
        due.is("count(2)", press.count(2), 0);
        due.is("its history", press.count(12), 2);
        due.is("undo()", press.undo(), 1);
        due.is("count(2) after undo", press.count(2), 1);
        due.is("an up bend lies down", press.bend(0), -1004);
        press.setUp(0, false);
        due.is("a down bend lies up", press.bend(0), 1);
        due.is("layOver() of a bent strip", press.layOver(), 0);
    }

    private static void bends() {
        BendOrders press = Due.strip("9u9u9");
        due.is("bend(1)", press.bend(1), 1);
        due.is("ofBend(1, 1)", press.ofBend(1, 1), 1);
        due.is("ofBend(0, 1)", press.ofBend(0, 1), 0);
        due.is("bend(0)", press.bend(0), 2);
        due.is("bendings", press.count(7), 2);
        due.is("its history", press.count(12), 3);
        due.is("undo()", press.undo(), 2);
        due.is("bendings after undo", press.count(7), 1);
        due.is("done after undo", press.count(1), 1);
        due.is("ofBend(0, 1) after undo", press.ofBend(0, 1), 0);
    }

    private static void refusesBends() {
        BendOrders press = Due.strip("5u1u5");
        due.is("bend(-1)", press.bend(-1), -1001);
        due.is("bend(2)", press.bend(2), -1001);
        due.is("bend(MIN)", press.bend(Integer.MIN_VALUE), -1001);
        due.is("bend(MAX)", press.bend(Integer.MAX_VALUE), -1001);
        due.is("bend(32)", press.bend(32), -1001);
        due.is("bend(1)", press.bend(1), 1);
        due.is("bend(1) again", press.bend(1), -1004);
        due.is("bend(0) strikes", press.bend(0), -1004);
        due.is("bendings", press.count(7), 1);
        due.is("its history", press.count(12), 2);
        press = new BendOrders();
        press.set(2, 6);
        due.is("bend(0) without hold", press.bend(0), -1004);
        press.set(2, 5);
        due.is("bend(0) with hold", press.bend(0), 1);
    }

    private static void flattens() {
        BendOrders press = Due.strip("9u9u9");
        due.is("flatten(-1)", press.flatten(-1), -1001);
        due.is("flatten(2)", press.flatten(2), -1001);
        due.is("flatten(MAX)", press.flatten(Integer.MAX_VALUE), -1001);
        due.is("flatten(0) of a flat bend", press.flatten(0), -1005);
        press.bend(0);
        press.bend(1);
        due.is("flatten(0)", press.flatten(0), 1);
        due.is("ofBend(0, 1)", press.ofBend(0, 1), 0);
        due.is("ofBend(1, 1)", press.ofBend(1, 1), 1);
        due.is("flatten(0) again", press.flatten(0), -1005);
        due.is("bendings stay", press.count(7), 2);
        due.is("its history", press.count(12), 4);
        due.is("undo()", press.undo(), 3);
        due.is("ofBend(0, 1) after undo", press.ofBend(0, 1), 1);
        due.is("flatten(1)", press.flatten(1), 1);
        due.is("flatten(0)", press.flatten(0), 0);
        due.is("bend(0) anew", press.bend(0), 1);
        due.is("bendings then", press.count(7), 3);
    }

    /** Flattening asks neither how the strip lies nor what it strikes. */
    private static void flattensInside() {
        BendOrders press = Due.strip("5u1u5");
        press.bend(1);
        press.layOver();
        due.is("flatten(1) of a strip laid over", press.flatten(1), 0);
        due.is("it still lies over", press.count(2), 1);
    }

    private static void followsWhole() {
        BendOrders press = Due.strip("9u9d9u9");
        due.is("follow(7)", press.follow(7), 3);
        due.is("bendings", press.count(7), 3);
        due.is("it was laid over and back", press.count(2), 0);
        due.is("its history: one act", press.count(12), 2);
        due.is("follow(1) when all are done", press.follow(1), -1005);
        due.is("its history", press.count(12), 2);
        due.is("undo()", press.undo(), 1);
        due.is("done after undo", press.count(1), 0);
        due.is("bendings after undo", press.count(7), 0);
    }

    private static void followsStepByStep() {
        BendOrders press = Due.strip("4u3u4");
        due.is("follow(1)", press.follow(1), 1);
        due.is("the bend 1 came first", press.ofBend(1, 1), 1);
        due.is("the bend 0 waits", press.ofBend(0, 1), 0);
        due.is("follow(2) with one left", press.follow(2), 2);
        due.is("follow(7) with none left", press.follow(7), -1005);

        press = Due.strip("9u9d9");
        due.is("follow(1)", press.follow(1), 1);
        due.is("it is not laid over ahead of time", press.count(2), 0);
        due.is("follow(1)", press.follow(1), 2);
        due.is("it lies over", press.count(2), 1);
        due.is("it lies as the last bend left it", press.ofBend(0, 0), 1);

        press = Due.strip("9u9d9");
        press.layOver();
        due.is("laid over: follow(2)", press.follow(2), 2);
        due.is("laid over: it lies over", press.count(2), 1);
    }

    private static void followsFromMidway() {
        BendOrders press = Due.strip("9u9u9u8");
        press.bend(1);
        due.is("follow(1) behind bend(1)", press.follow(1), 2);
        due.is("the bend 0 is done", press.ofBend(0, 1), 1);
        due.is("the bend 2 is not", press.ofBend(2, 1), 0);
        due.is("follow(3) of what is left", press.follow(3), 3);
        due.is("bendings", press.count(7), 3);
    }

    private static void refusesToFollow() {
        BendOrders press = new BendOrders();
        due.is("follow(0)", press.follow(0), -1002);
        due.is("follow(8)", press.follow(8), -1002);
        due.is("follow(-1)", press.follow(-1), -1002);
        due.is("follow(MAX)", press.follow(Integer.MAX_VALUE), -1002);
        due.is("follow(MIN)", press.follow(Integer.MIN_VALUE), -1002);
        press.set(2, 6);
        due.is("follow(0) without an order", press.follow(0), -1002);
        due.is("follow(1) without an order", press.follow(1), -1004);
        due.is("its history", press.count(12), 1);
        press.set(2, 1);
        press.bend(0);
        press.set(2, 6);
        due.is("follow(8) when all are done", press.follow(8), -1002);
        due.is("follow(1) when all are done", press.follow(1), -1005);
    }
}
