/** Promises 15 to 22: ofBend, lengthOf, end, strikers, order, orders, mustWait, count. */
public final class ToldTest {
    private static final Due due = new Due("ToldTest");

    public static void main(String[] arguments) {
        tellsBends();
        asksReasonsInTheirOrder();
        holdsWithTheClamp();
        strikesUpperWithTheRightSide();
        strikesUpperWithTheLeftSide();
        strikesLower();
        strikesBelowLower();
        strikesLowerWithTheLeftSide();
        strikesUpperAheadOfLower();
        strikesLowerAheadOfItself();
        strikesItself();
        springsBack();
        tellsLengths();
        tellsFlatEnds();
        tellsEndsOnTheRight();
        tellsEndsOnTheLeft();
        refusesEnds();
        tellsStrikersWhateverElse();
        tellsOrders();
        triesOrdersOnByOn();
        ordersFollowTheSettings();
        waits();
        counts();
        due.close();
    }

    private static void reason(String what, BendOrders press, int bend, int want) {
        due.is(what + ": ofBend(" + bend + ", 2)", press.ofBend(bend, 2), want);
    }

    private static void tellsBends() {
        BendOrders press = Due.strip("9u9d9");
        due.is("ofBend(0, 0)", press.ofBend(0, 0), 1);
        due.is("ofBend(1, 0)", press.ofBend(1, 0), 0);
        press.layOver();
        due.is("laid over: ofBend(0, 0)", press.ofBend(0, 0), 1);
        due.is("laid over: ofBend(1, 0)", press.ofBend(1, 0), 0);
        press.layOver();
        due.is("ofBend(0, 1)", press.ofBend(0, 1), 0);
        press.bend(0);
        due.is("ofBend(0, 1) when done", press.ofBend(0, 1), 1);
        due.is("ofBend(-1, 0)", press.ofBend(-1, 0), -1001);
        due.is("ofBend(2, 0)", press.ofBend(2, 0), -1001);
        due.is("ofBend(2, 9): unknown first", press.ofBend(2, 9), -1001);
        due.is("ofBend(MIN, 0)", press.ofBend(Integer.MIN_VALUE, 0), -1001);
        due.is("ofBend(0, -1)", press.ofBend(0, -1), -1002);
        due.is("ofBend(0, 5)", press.ofBend(0, 5), -1002);
        due.is("ofBend(0, MAX)", press.ofBend(0, Integer.MAX_VALUE), -1002);
    }

    private static void asksReasonsInTheirOrder() {
        BendOrders press = Due.strip("9u9d9");
        reason("flat", press, 0, 0);
        reason("flat", press, 1, 2);
        due.is("ofBend(0, 4)", press.ofBend(0, 4), 2);
        due.is("ofBend(1, 4)", press.ofBend(1, 4), 0);
        press.set(2, 9);
        reason("held by 18", press, 0, 0);
        press.bend(0);
        reason("done", press, 0, 1);
        due.is("done: ofBend(0, 4)", press.ofBend(0, 4), 1);
        press.layOver();
        reason("done and down", press, 0, 1);
        reason("laid over", press, 1, 0);
        due.is("ofBend asks only", press.count(2), 1);

        press = Due.strip("5d5");
        press.set(2, 9);
        reason("not up, and no hold", press, 0, 2);
        due.is("no hold the other way", press.ofBend(0, 4), 3);

        press = Due.strip("5u1u5");
        press.bend(1);
        press.set(2, 2);
        reason("no hold, and striking", press, 0, 3);
        press.set(2, 1);
        reason("held, and striking", press, 0, 4);
    }

    private static void holdsWithTheClamp() {
        BendOrders press = Due.strip("9u2u3u4");
        press.set(2, 9);
        reason("2 + 3 + 4", press, 0, 0);
        reason("3 + 4", press, 1, 3);
        reason("4", press, 2, 3);
        press.set(2, 7);
        reason("3 + 4 for 7", press, 1, 0);
        press.set(2, 8);
        reason("3 + 4 for 8", press, 1, 3);
        press.set(2, 1);
        press.bend(2);
        press.set(2, 5);
        due.is("2 + 3 up to a bend for 5 holds", press.ofBend(0, 2) == 3 ? 1 : 0, 0);
        press.set(2, 6);
        reason("2 + 3 up to a bend for 6", press, 0, 3);
        reason("3 up to a bend for 6", press, 1, 3);
        press.set(2, 0);
        press.flatten(2);
        reason("no hold is needed", press, 2, 0);
    }

    private static void strikesUpperWithTheRightSide() {
        BendOrders press = Due.strip("5u2u5");
        press.bend(1);
        reason("a flange at 2", press, 0, 4);
        due.is("strikers(0)", press.strikers(0), 4);
        press.set(1, 0);
        reason("a narrow tool", press, 0, 0);
        due.is("strikers(0)", press.strikers(0), 0);
        press.set(1, 1);
        press.set(0, 2);
        reason("a low tool", press, 0, 0);
        press.set(0, 3);
        reason("a tool of 3", press, 0, 4);

        press = Due.strip("5u4u5");
        press.bend(1);
        press.set(1, 2);
        reason("a flange at 4 for 3", press, 0, 0);
        press.set(1, 3);
        reason("a flange at 4 for 4", press, 0, 4);

        press = Due.strip("5u2u2");
        press.bend(1);
        press.set(1, 3);
        press.set(0, 12);
        reason("a flange below the head", press, 0, 0);

        press = Due.strip("5u1u1");
        press.bend(1);
        press.set(0, 1);
        reason("the lowest tool", press, 0, 4);
    }

    private static void strikesUpperWithTheLeftSide() {
        BendOrders press = Due.strip("4u1u5");
        press.bend(0);
        reason("a flange swung to the right", press, 1, 4);
        due.is("strikers(1)", press.strikers(1), 1);

        press = Due.strip("4u7u5");
        press.bend(0);
        reason("a flange swung above the tool", press, 1, 0);
        press.set(0, 7);
        reason("a flange swung against its top", press, 1, 4);
        due.is("strikers(1)", press.strikers(1), 1);

        press = Due.strip("1u7u5");
        press.bend(0);
        press.set(0, 7);
        reason("a flange that ends at 1", press, 1, 4);
        press.set(1, 0);
        reason("a flange that ends at 1, with a narrow tool", press, 1, 4);

        press = Due.strip("4d1u5");
        press.layOver();
        press.bend(0);
        press.layOver();
        reason("a flange swung to the left", press, 1, 0);
        due.is("strikers(1)", press.strikers(1), 0);
    }

    private static void strikesLower() {
        int[] wants = {5, 5, 5, 0, 0};
        for (int length = 1; length <= 5; length++) {
            BendOrders press = Due.strip("5u" + length + "d5");
            press.layOver();
            due.is("laid over: bend(1)", press.bend(1), 1);
            press.layOver();
            reason("a flange going down at " + length, press, 0, wants[length - 1]);
            due.is("strikers(0)", press.strikers(0), 0);
            press.set(0, 12);
            press.set(1, 3);
            reason("with the highest tool", press, 0, wants[length - 1]);
        }
    }

    private static void strikesBelowLower() {
        for (int depth = 2; depth <= 5; depth++) {
            BendOrders press = Due.strip("5u4d" + depth + "d3");
            press.set(0, 2);
            press.layOver();
            due.is("bend(2)", press.bend(2), 1);
            due.is("bend(1)", press.bend(1), 2);
            press.layOver();
            reason("a flange " + depth + " below", press, 0, depth <= 3 ? 5 : 0);
        }
    }

    private static void strikesLowerWithTheLeftSide() {
        for (int depth = 3; depth <= 4; depth++) {
            BendOrders press = Due.strip("5d" + depth + "d1u5");
            press.layOver();
            due.is("laid over: bend(1)", press.bend(1), 1);
            due.is("laid over: bend(0)", press.bend(0), 2);
            press.layOver();
            reason("flat alone, a flange " + depth + " below", press, 2, depth == 3 ? 5 : 0);
        }
        BendOrders press = Due.strip("3u5u5u2u4");
        press.set(0, 1);
        due.is("bend(2)", press.bend(2), 1);
        due.is("bend(1)", press.bend(1), 2);
        due.is("bend(0)", press.bend(0), 3);
        reason("behind bending alone", press, 3, 5);
        press.flatten(0);
        reason("with the flange 0 straight on", press, 3, 0);
    }

    private static void strikesUpperAheadOfLower() {
        BendOrders press = Due.strip("4u1u2d5");
        due.is("bend(0)", press.bend(0), 1);
        press.layOver();
        due.is("bend(2)", press.bend(2), 2);
        press.layOver();
        reason("it strikes both", press, 1, 4);
        due.is("strikers(1)", press.strikers(1), 1);
        press.flatten(0);
        reason("it strikes the lower one", press, 1, 5);
    }

    private static void strikesLowerAheadOfItself() {
        BendOrders press = Due.strip("9u3d1u2u9u9");
        press.set(0, 1);
        press.layOver();
        due.is("bend(1)", press.bend(1), 1);
        press.layOver();
        due.is("bend(2)", press.bend(2), 2);
        due.is("bend(4)", press.bend(4), 3);
        due.is("bend(3)", press.bend(3), 4);
        reason("it strikes the lower one and itself", press, 0, 5);
    }

    private static void strikesItself() {
        BendOrders press = Due.strip("5u2u2u2");
        press.set(0, 1);
        due.is("bend(2)", press.bend(2), 1);
        due.is("bend(1)", press.bend(1), 2);
        reason("the flanges 0 and 3 meet", press, 0, 6);
        due.is("strikers(0)", press.strikers(0), 0);
        due.is("bend(0)", press.bend(0), -1004);
        press.set(0, 2);
        reason("and the flange 3 strikes the tool", press, 0, 4);
        due.is("strikers(0)", press.strikers(0), 8);

        press = Due.strip("5u2u2u1");
        press.set(0, 1);
        press.bend(2);
        press.bend(1);
        reason("a gap of 1", press, 0, 0);

        press = Due.strip("2u2u2u2");
        press.set(0, 1);
        press.bend(2);
        press.bend(1);
        reason("the ends touch", press, 0, 6);

        press = Due.strip("1u2u2u2");
        press.set(0, 1);
        press.bend(2);
        press.bend(1);
        reason("the ends do not touch", press, 0, 0);
    }

    private static void springsBack() {
        int[] wants = {93, 92, 91, 90, 90, 90, 90, 90, 90};
        for (int length = 1; length <= 9; length++) {
            BendOrders press = Due.strip("9u" + length);
            due.is("ofBend(0, 3) with " + length, press.ofBend(0, 3), wants[length - 1]);
            press.set(3, 9);
            due.is("ofBend(0, 3) of 9 with " + length, press.ofBend(0, 3), 100 - length);
            press.set(3, 0);
            due.is("ofBend(0, 3) of 0 with " + length, press.ofBend(0, 3), 90);
        }
        BendOrders press = Due.strip("9u1u2");
        due.is("the next flange alone: ofBend(0, 3)", press.ofBend(0, 3), 93);
        due.is("the next flange alone: ofBend(1, 3)", press.ofBend(1, 3), 92);
        press.layOver();
        due.is("laid over: ofBend(0, 3)", press.ofBend(0, 3), 93);
        press.layOver();
        press.bend(0);
        due.is("done: ofBend(0, 3)", press.ofBend(0, 3), 93);
    }

    private static void tellsLengths() {
        BendOrders press = Due.strip("1d2u3");
        due.is("lengthOf(0)", press.lengthOf(0), 1);
        due.is("lengthOf(1)", press.lengthOf(1), 2);
        due.is("lengthOf(2)", press.lengthOf(2), 3);
        due.is("lengthOf(3)", press.lengthOf(3), -1001);
        due.is("lengthOf(-1)", press.lengthOf(-1), -1001);
        due.is("lengthOf(MIN)", press.lengthOf(Integer.MIN_VALUE), -1001);
        due.is("lengthOf(MAX)", press.lengthOf(Integer.MAX_VALUE), -1001);
    }

    private static void ends(BendOrders press, int bend, int[] xs, int[] ys) {
        for (int flange = 0; flange < xs.length; flange++) {
            due.is("end(" + bend + ", " + flange + ", false)", press.end(bend, flange, false), xs[flange]);
            due.is("end(" + bend + ", " + flange + ", true)", press.end(bend, flange, true), ys[flange]);
        }
    }

    private static void tellsFlatEnds() {
        BendOrders press = Due.strip("2u3d4u1");
        ends(press, 0, new int[] {-2, 3, 7, 8}, new int[] {0, 0, 0, 0});
        ends(press, 1, new int[] {-5, -3, 4, 5}, new int[] {0, 0, 0, 0});
        ends(press, 2, new int[] {-9, -7, -4, 1}, new int[] {0, 0, 0, 0});
        press.bend(0);
        ends(press, 0, new int[] {-2, 3, 7, 8}, new int[] {0, 0, 0, 0});
        ends(press, 1, new int[] {-3, -3, 4, 5}, new int[] {2, 0, 0, 0});
        press.layOver();
        ends(press, 1, new int[] {-3, -3, 4, 5}, new int[] {-2, 0, 0, 0});
    }

    private static void tellsEndsOnTheRight() {
        BendOrders press = Due.strip("1u2u3u4u5u3");
        press.set(0, 1);
        for (int bend = 4; bend >= 1; bend--) {
            due.is("bend(" + bend + ")", press.bend(bend), 5 - bend);
        }
        ends(press, 0, new int[] {-1, 2, 2, -2, -2, 1}, new int[] {0, 0, 3, 3, -2, -2});
        press.layOver();
        ends(press, 0, new int[] {-1, 2, 2, -2, -2, 1}, new int[] {0, 0, -3, -3, 2, 2});
    }

    private static void tellsEndsOnTheLeft() {
        BendOrders press = Due.strip("3u5u4u3u2u1");
        press.set(0, 1);
        for (int bend = 3; bend >= 0; bend--) {
            due.is("bend(" + bend + ")", press.bend(bend), 4 - bend);
        }
        ends(press, 4, new int[] {-1, 2, 2, -2, -2, 1}, new int[] {-2, -2, 3, 3, 0, 0});
        press.layOver();
        ends(press, 4, new int[] {-1, 2, 2, -2, -2, 1}, new int[] {2, 2, -3, -3, 0, 0});
    }

    private static void refusesEnds() {
        BendOrders press = new BendOrders();
        due.is("end(-1, 0, true)", press.end(-1, 0, true), -1001);
        due.is("end(1, 0, true)", press.end(1, 0, true), -1001);
        due.is("end(0, -1, false)", press.end(0, -1, false), -1001);
        due.is("end(0, 2, false)", press.end(0, 2, false), -1001);
        due.is("end(MAX, MAX, false)", press.end(Integer.MAX_VALUE, Integer.MAX_VALUE, false), -1001);
        due.is("end(0, MIN, false)", press.end(0, Integer.MIN_VALUE, false), -1001);
        due.is("end(0, 1, false)", press.end(0, 1, false), 5);
    }

    private static void tellsStrikersWhateverElse() {
        BendOrders press = Due.strip("5u1u5");
        press.bend(1);
        due.is("strikers(0)", press.strikers(0), 4);
        press.set(2, 9);
        due.is("without hold: strikers(0)", press.strikers(0), 4);
        due.is("of a done bend: strikers(1)", press.strikers(1), 0);
        press.layOver();
        due.is("laid over: strikers(0)", press.strikers(0), 0);
        due.is("laid over, of a done bend: strikers(1)", press.strikers(1), 0);
        due.is("strikers(-1)", press.strikers(-1), -1001);
        due.is("strikers(2)", press.strikers(2), -1001);
        due.is("strikers(MIN)", press.strikers(Integer.MIN_VALUE), -1001);

        press = Due.strip("4u1d1u5");
        press.set(1, 0);
        press.bend(2);
        press.bend(0);
        reason("bend 1 is not up", press, 1, 2);
        due.is("not up: strikers(1)", press.strikers(1), 1 + 8);
        press.layOver();
        due.is("up: strikers(1)", press.strikers(1), 0);

        press = Due.strip("4u1u1u5");
        press.bend(0);
        press.layOver();
        press.layOver();
        due.is("the left side alone: strikers(1)", press.strikers(1), 1);
        press.flatten(0);
        press.bend(2);
        due.is("the right side alone: strikers(1)", press.strikers(1), 8);
    }

    private static void tellsOrders() {
        BendOrders press = Due.strip("9u9u9");
        due.is("orders()", press.orders(), 2);
        due.is("order(0)", press.order(0), 0);
        due.is("order(1)", press.order(1), 1);
        due.is("order(2)", press.order(2), -1005);
        due.is("order(MAX)", press.order(Integer.MAX_VALUE), -1005);
        due.is("order(-1)", press.order(-1), -1002);
        due.is("order(MIN)", press.order(Integer.MIN_VALUE), -1002);
        press.bend(0);
        due.is("one left: orders()", press.orders(), 1);
        due.is("one left: order(0)", press.order(0), 1);
        due.is("one left: order(1)", press.order(1), -1005);
        press.bend(1);
        due.is("none left: orders()", press.orders(), 1);
        due.is("none left: order(0)", press.order(0), -1005);
        due.is("none left: order(-1)", press.order(-1), -1002);
        press.set(2, 9);
        press.flatten(0);
        press.set(0, 12);
        due.is("one again: orders()", press.orders(), 1);

        press = Due.strip("9u9u9");
        press.set(0, 9);
        due.is("a high tool: orders()", press.orders(), 1);
        due.is("a high tool: order(0)", press.order(0), 1);
        due.is("a high tool: order(1)", press.order(1), 0);

        press = Due.strip("9u9d9u9");
        due.is("long flanges: orders()", press.orders(), 6);
        for (int place = 0; place < 3; place++) {
            due.is("order(" + place + ")", press.order(place), place);
        }
        due.is("order(3)", press.order(3), -1005);
        due.is("count(5)", press.count(5), 2);

        press = new BendOrders();
        press.set(2, 9);
        due.is("no order: orders()", press.orders(), 0);
        due.is("no order: order(0)", press.order(0), -1004);
        due.is("no order: order(9)", press.order(9), -1004);
        due.is("no order: order(-1)", press.order(-1), -1002);
    }

    /** The bend 0 can be done first, but no order begins with it. */
    private static void triesOrdersOnByOn() {
        BendOrders press = Due.strip("4u1u5");
        press.set(1, 0);
        reason("the bend 0 can be done", press, 0, 0);
        due.is("count(4)", press.count(4), 3);
        press.setLength(1, 2);
        due.is("orders()", press.orders(), 1);
        due.is("order(0)", press.order(0), 1);
        due.is("order(1)", press.order(1), 0);
        press.bend(0);
        due.is("behind bend(0): orders()", press.orders(), 0);
        due.is("behind bend(0): order(0)", press.order(0), -1004);
        due.is("behind bend(0): order(1)", press.order(1), -1004);
        due.is("behind bend(0): count(3)", press.count(3), 0);
        press.undo();
        due.is("behind undo(): orders()", press.orders(), 1);
    }

    /** What was found is not to outlive the strip or the tool it was found for. */
    private static void ordersFollowTheSettings() {
        BendOrders press = Due.strip("9u9u9");
        due.is("orders()", press.orders(), 2);
        press.set(0, 9);
        due.is("set(0, 9): orders()", press.orders(), 1);
        press.undo();
        due.is("undo(): orders()", press.orders(), 2);
        press.setLength(1, 1);
        due.is("setLength(1, 1): orders()", press.orders(), 0);
        press.setUp(1, false);
        due.is("setUp(1, false): orders()", press.orders(), 1);
        press.undo();
        press.setLength(1, 4);
        due.is("setLength(1, 4): orders()", press.orders(), 1);
        press.set(1, 3);
        due.is("set(1, 3): orders()", press.orders(), 0);
        press.set(1, 1);
        due.is("set(1, 1): orders()", press.orders(), 1);
        press.set(2, 5);
        due.is("set(2, 5): orders()", press.orders(), 0);
        press.set(2, 4);
        due.is("set(2, 4): orders()", press.orders(), 1);
        Due.type(press, "9u9u9");
        press.takeStrip();
        due.is("takeStrip(): orders()", press.orders(), 2);
        Due.type(press, "9u9u9u9");
        press.takeStrip();
        due.is("a closed square: count(3)", press.count(3), 0);
        press.setLength(3, 8);
        due.is("open at the flange 3: count(3)", press.count(3), 1);
        press.setLength(3, 9);
        due.is("closed again: count(3)", press.count(3), 0);
        press.setLength(0, 8);
        due.is("open at the flange 0: count(3)", press.count(3), 1);
    }

    private static void waits() {
        BendOrders press = Due.strip("4u3u4");
        due.is("mustWait(0, 1)", press.mustWait(0, 1), 1);
        due.is("mustWait(1, 0)", press.mustWait(1, 0), 0);
        due.is("mustWait(0, 0)", press.mustWait(0, 0), -1002);
        due.is("mustWait(0, 2)", press.mustWait(0, 2), -1001);
        due.is("mustWait(2, 0)", press.mustWait(2, 0), -1001);
        due.is("mustWait(2, 2)", press.mustWait(2, 2), -1001);
        due.is("mustWait(-1, 0)", press.mustWait(-1, 0), -1001);
        due.is("mustWait(0, MIN)", press.mustWait(0, Integer.MIN_VALUE), -1001);
        press.bend(1);
        due.is("mustWait(0, 1) with 1 done", press.mustWait(0, 1), -1001);
        due.is("mustWait(1, 0) with 1 done", press.mustWait(1, 0), -1001);
        due.is("mustWait(1, 1) with 1 done", press.mustWait(1, 1), -1001);
        due.is("mustWait(0, 0) with 1 done", press.mustWait(0, 0), -1002);

        press = Due.strip("9u9u9");
        due.is("either first: mustWait(0, 1)", press.mustWait(0, 1), 0);
        due.is("either first: mustWait(1, 0)", press.mustWait(1, 0), 0);
        press.setLength(1, 1);
        due.is("no order: mustWait(0, 1)", press.mustWait(0, 1), -1004);
        due.is("no order: mustWait(1, 1)", press.mustWait(1, 1), -1002);
        due.is("no order: mustWait(1, 3)", press.mustWait(1, 3), -1001);

        press = Due.strip("5u3d3u5");
        due.is("one order of three: orders()", press.orders(), 1);
        for (int bend = 0; bend < 3; bend++) {
            for (int other = 0; other < 3; other++) {
                int want = bend == other ? -1002 : bend > other ? 1 : 0;
                due.is("one order of three: mustWait(" + bend + ", " + other + ")", press.mustWait(bend, other), want);
            }
        }

        press = Due.strip("4u3u9u9");
        due.is("three bends: orders()", press.orders(), 3);
        due.is("mustWait(0, 1)", press.mustWait(0, 1), 1);
        due.is("mustWait(1, 0)", press.mustWait(1, 0), 0);
        due.is("mustWait(2, 0)", press.mustWait(2, 0), 0);
        due.is("mustWait(0, 2)", press.mustWait(0, 2), 0);
        due.is("mustWait(1, 2)", press.mustWait(1, 2), 0);
        due.is("mustWait(2, 1)", press.mustWait(2, 1), 0);
    }

    private static void counts() {
        BendOrders press = Due.strip("9u9d9");
        int[] flat = {2, 0, 0, 1, 1, 1, 27, 0, 6, 1, 1, 3, 1, 5};
        for (int what = 0; what < flat.length; what++) {
            due.is("flat: count(" + what + ")", press.count(what), flat[what]);
        }
        press.layOver();
        int[] over = {2, 0, 1, 1, 2, 2, 27, 0, 6, 1, 1, 3, 2, 5};
        for (int what = 0; what < over.length; what++) {
            due.is("laid over: count(" + what + ")", press.count(what), over[what]);
        }
        press.bend(1);
        int[] bent = {2, 1, 1, 1, 0, 1, 27, 1, 6, 1, 1, 3, 3, 5};
        for (int what = 0; what < bent.length; what++) {
            due.is("bent: count(" + what + ")", press.count(what), bent[what]);
        }
        press.follow(1);
        int[] all = {2, 2, 0, 1, 0, 0, 27, 2, 6, 1, 1, 3, 4, 5};
        for (int what = 0; what < all.length; what++) {
            due.is("all done: count(" + what + ")", press.count(what), all[what]);
        }
        due.is("count(-1)", press.count(-1), -1002);
        due.is("count(14)", press.count(14), -1002);
        due.is("count(MIN)", press.count(Integer.MIN_VALUE), -1002);
        due.is("count(MAX)", press.count(Integer.MAX_VALUE), -1002);
        press.flatten(0);
        press.flatten(1);
        press.set(2, 9);
        press.setLength(2, 8);
        due.is("no order: count(3)", press.count(3), 0);
        due.is("no order: count(5)", press.count(5), -1005);
        due.is("no order: count(4)", press.count(4), 1);
        due.is("flattened: count(7)", press.count(7), 2);
    }
}
