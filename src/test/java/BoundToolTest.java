/** The boundaries of the tool and of the reasons for which a bend cannot be done (Terms: the tool and strikes). */
public final class BoundToolTest {
    private static final Due due = new Due("BoundToolTest");
    // a low and narrow tool, so that the steps of a script strike nothing
    private static final String LOW = "s0=1 s1=0 ";
    // the tool of a new object again
    private static final String FIRST = " s0=6 s1=1";

    public static void main(String[] arguments) {
        theToolBendsUpAlone();
        theUpperToolEndsAtItsHeight();
        theUpperToolIsNarrowBelow3AndWideFrom3();
        theHeadBeginsAt3AndEndsAtItsWidth();
        theLowestRowOfTheNeck();
        theUpperToolBeginsAt1();
        theLowerToolIsFrom1To3();
        theLowerToolIsFromMinus3ToMinus1();
        theLowerToolBeginsAt1();
        theFlatShapeAndTheOneBehindBendingCount();
        theStripStrikesItselfInOnePoint();
        theStripStrikesItselfBehindBendingAlone();
        neighboursDoNotStrike();
        theClampHoldsFromTheSettingOn();
        theClampHoldsWhatGoesStraightOn();
        ofTwoReasonsTheFirstIsTold();
        theReasonOfTheOtherWay();
        strikersAreToldWhateverElseStandsAgainstIt();
        strikersAreOfBothShapesAndAllFlanges();
        due.close();
    }

    private static void asks(String call, BendOrders press, int bend, int reason, int strikers) {
        due.is(call + ": ofBend(" + bend + ", 2)", press.ofBend(bend, 2), reason);
        due.is(call + ": strikers(" + bend + ")", press.strikers(bend), strikers);
        int can = press.count(4) >> bend & 1;
        due.is(call + ": count(4)", can, reason == 0 ? 1 : 0);
    }

    private static void sets(BendOrders press, int height, int width) {
        press.set(0, height);
        press.set(1, width);
    }

    /** "the bend b can be done if it is up as the strip lies". */
    private static void theToolBendsUpAlone() {
        for (String strip : new String[] {"5u5", "5d5"}) {
            for (int over = 0; over <= 1; over++) {
                BendOrders press = Script.made("=" + strip + " L" + over);
                boolean up = (strip.charAt(1) == 'u') == (over == 0);
                String call = strip + ", laid over " + over;
                due.is(call + ": ofBend(0, 2)", press.ofBend(0, 2), up ? 0 : 2);
                due.is(call + ": ofBend(0, 4)", press.ofBend(0, 4), up ? 2 : 0);
                due.is(call + ": count(4)", press.count(4), up ? 1 : 0);
                due.is(call + ": bend(0)", press.bend(0), up ? 1 : -1004);
                due.is(call + ": count(2)", press.count(2), over);
                due.is(call + ": count(1)", press.count(1), up ? 1 : 0);
            }
        }
    }

    /** "y from 1 to the setting 0": the flange 0 is swung to the right, from (0, y) to (1, y). */
    private static void theUpperToolEndsAtItsHeight() {
        for (int y = 1; y <= 13; y++) {
            String strip = y <= 9 ? "=1u" + y + "u9" : "=1u9u" + (y - 9) + "u9";
            int asked = y <= 9 ? 1 : 2;
            for (int width = 0; width <= 3; width += 3) {
                BendOrders press = Script.made(LOW + strip + " b0");
                for (int height = 1; height <= 12; height++) {
                    sets(press, height, width);
                    boolean strikes = y <= height;
                    asks("(1, " + y + "), the height " + height, press, asked, strikes ? 4 : 0, strikes ? 1 : 0);
                }
            }
        }
    }

    /** "x as 1 if y is 1 or 2, and from 1 to 1 + w if y is 3 or more": the flange 2 stands at x, from 0 to y. */
    private static void theUpperToolIsNarrowBelow3AndWideFrom3() {
        for (int x = 1; x <= 6; x++) {
            for (int y = 1; y <= 9; y++) {
                for (int width = 0; width <= 3; width++) {
                    BendOrders press = Script.made(LOW + "=9u" + x + "u" + y + " b1");
                    for (int height = 1; height <= 12; height++) {
                        sets(press, height, width);
                        boolean neck = x == 1;
                        boolean head = x <= 1 + width && y >= 3 && height >= 3;
                        String call = "(" + x + ", 0 to " + y + "), the tool " + height + ", " + width;
                        asks(call, press, 0, neck || head ? 4 : 0, neck || head ? 4 : 0);
                    }
                }
            }
        }
    }

    /** The flange 3 comes from the right above, at y, and ends at x. */
    private static void theHeadBeginsAt3AndEndsAtItsWidth() {
        for (int y = 2; y <= 9; y++) {
            for (int x = 1; x <= 5; x++) {
                for (int width = 0; width <= 3; width++) {
                    BendOrders press = Script.made(LOW + "=9u6u" + y + "u" + (6 - x) + " b1 b2");
                    for (int height = 1; height <= 12; height++) {
                        sets(press, height, width);
                        boolean inRow = y <= height;
                        boolean strikes = inRow && (y == 2 ? x == 1 : x <= 1 + width);
                        String call = "(6 to " + x + ", " + y + "), the tool " + height + ", " + width;
                        asks(call, press, 0, strikes ? 4 : 0, strikes ? 8 : 0);
                    }
                }
            }
        }
    }

    /** The row 1 from the right: the flange 5 comes at y = 1 from 7 and ends at x. */
    private static void theLowestRowOfTheNeck() {
        for (int x = 1; x <= 3; x++) {
            for (int height = 1; height <= 12; height++) {
                BendOrders press = Script.made(LOW + "=9u5d1u2u2u" + (7 - x) + " b1 b2 b3 b4 L0");
                sets(press, height, 3);
                int strikes = x == 1 ? 4 : 0;
                asks("(7 to " + x + ", 1), the height " + height, press, 0, strikes, strikes == 4 ? 32 : 0);
            }
        }
    }

    /** x from 1, y from 1: the strip lies at y = 0 and stands at x = 0, and strikes nothing there. */
    private static void theUpperToolBeginsAt1() {
        for (int height = 1; height <= 12; height++) {
            for (int width = 0; width <= 3; width++) {
                BendOrders press = Script.made("=9u9u9u9");
                sets(press, height, width);
                for (int bend = 0; bend < 3; bend++) {
                    asks("flat, the tool " + height + ", " + width, press, bend, 0, 0);
                }
            }
        }
        // the flange 0 is swung to the left, at each height of the tool
        for (int y = 1; y <= 9; y++) {
            BendOrders press = Script.made(LOW + "=9d" + y + "u9 b0 L0");
            sets(press, 12, 3);
            asks("(0 to -9, " + y + ")", press, 1, 0, 0);
        }
    }

    /** "x from 1 to 3": the flange 2 hangs at x, from 0 to -y. */
    private static void theLowerToolIsFrom1To3() {
        for (int x = 1; x <= 6; x++) {
            for (int y = 1; y <= 9; y++) {
                BendOrders press = Script.made(LOW + "=9u" + x + "d" + y + " b1 L0");
                asks("(" + x + ", 0 to " + -y + ")", press, 0, x <= 3 ? 5 : 0, 0);
                sets(press, 12, 3);
                asks("(" + x + ", 0 to " + -y + "), high", press, 0, x <= 3 ? 5 : 0, 0);
            }
        }
    }

    /** "y from -3 to -1": the flange 3 comes from the right below, at -y, and ends at x. */
    private static void theLowerToolIsFromMinus3ToMinus1() {
        for (int y = 2; y <= 6; y++) {
            for (int x = 0; x <= 5; x++) {
                BendOrders press = Script.made(LOW + "=9u6d" + y + "d" + (6 - x) + " b1 b2 L0");
                asks("(6 to " + x + ", " + -y + ")", press, 0, y <= 3 && x <= 3 ? 5 : 0, 0);
            }
        }
        due.is("y = 0 is above it", Script.made("=9u9").ofBend(0, 2), 0);
    }

    /** The flange 0 comes from the left below, at -y, and ends at x. */
    private static void theLowerToolBeginsAt1() {
        for (int y = 2; y <= 6; y++) {
            for (int x = -2; x <= 3; x++) {
                BendOrders press = Script.made(LOW + "=" + (6 + x) + "d" + y + "d6u9 b0 b1 L0");
                asks("(-6 to " + x + ", " + -y + ")", press, 2, y <= 3 && x >= 1 ? 5 : 0, 0);
            }
        }
    }

    /** "a point of the shape with b laid as not done, or a point of the shape behind bending": each of them alone. */
    private static void theFlatShapeAndTheOneBehindBendingCount() {
        asks("upper, the left side laid flat", Script.made(LOW + "=5u5u6u5u4u1 b1 b2" + FIRST), 4, 4, 1);
        asks("upper, the left side swung up", Script.made(LOW + "=1u5u2 b0" + FIRST), 1, 4, 1);
        asks("upper, the right side", Script.made("=2u2u6 b1"), 0, 4, 4);
        asks("lower, the left side laid flat", Script.made(LOW + "=4d2d1u2 b0 b1 L0"), 2, 5, 0);
        asks("lower, the left side swung up", Script.made(LOW + "=3u3u2u1 b0 b1"), 2, 5, 0);
        asks("lower, the right side", Script.made(LOW + "=1u2d5 b1 L0"), 0, 5, 0);
        asks("neither", Script.made(LOW + "=1u4d5 b1 L0"), 0, 0, 0);
    }

    /** The flange 3 comes back at y = 2 and ends at x; the flange 0 stands at x = 0, from 0 to its length. */
    private static void theStripStrikesItselfInOnePoint() {
        for (int x = -2; x <= 2; x++) {
            for (int length = 1; length <= 4; length++) {
                BendOrders press = Script.made(LOW + "=" + length + "u5u2u" + (5 - x) + " b2 b1");
                boolean meets = x <= 0 && length >= 2;
                asks("ends at (" + x + ", 2), the flange 0 of " + length, press, 0, meets ? 6 : 0, 0);
            }
        }
        // ends that meet in a corner, and ends that miss it by one
        String[] squares = {"2u2u2u2", "1u2u2u2", "2u2u2u1", "3u3u2u3", "2u3u3u3", "3u3u3u2"};
        int[] reasons = {6, 0, 0, 6, 0, 0};
        for (int i = 0; i < squares.length; i++) {
            asks(squares[i], Script.made(LOW + "=" + squares[i] + " b2 b1"), 0, reasons[i], 0);
        }
    }

    /** "in the shape behind bending": what meets in the flat shape alone is no strike, and the other way around. */
    private static void theStripStrikesItselfBehindBendingAlone() {
        BendOrders press = Script.made(LOW + "=2u3u5u5u6 b0 b1 b2 b3 f0");
        asks("it meets flat alone", press, 0, 0, 0);
        due.is("the flange 1 goes from (0, 0) to (3, 0)", press.end(0, 1, false), 3);
        due.is("the flange 3 ends at y = 5", press.end(0, 3, true), 5);
        due.is("the flange 4 ends at x = -2", press.end(0, 4, false), -2);
        due.is("the flange 4 ends at y = -1: it crosses the flange 0", press.end(0, 4, true), -1);
        due.is("bend(0)", press.bend(0), 4);
        asks("it meets behind bending alone", Script.made(LOW + "=3u3u2u3 b0 b2"), 1, 6, 0);
    }

    /** "two flanges that are not neighbours": neighbours have their corner in common, at any bend. */
    private static void neighboursDoNotStrike() {
        BendOrders press = Script.made(LOW + "=9u9d9u9d9u9d9u9");
        for (int bend = 6; bend >= 0; bend--) {
            if (press.ofBend(bend, 2) == 2) {
                press.layOver();
            }
            asks("a staircase", press, bend, 0, 0);
            due.is("bend(" + bend + ")", press.bend(bend), 7 - bend);
        }
    }

    /** "is shorter than the setting 2": as long as it holds, one shorter does not. */
    private static void theClampHoldsFromTheSettingOn() {
        for (int length = 1; length <= 9; length++) {
            for (int setting = 0; setting <= 9; setting++) {
                BendOrders press = Script.made("=9u" + length);
                press.set(2, setting);
                boolean holds = length >= setting;
                String call = "a flange of " + length + " for " + setting;
                asks(call, press, 0, holds ? 0 : 3, 0);
                due.is(call + ": bend(0)", press.bend(0), holds ? 1 : -1004);
            }
        }
    }

    /** "with all flanges behind it that go straight on from it": up to the first bend that is done, and none ahead. */
    private static void theClampHoldsWhatGoesStraightOn() {
        String[] acts = {"", "b3", "b2", "b1", "b2 b3", "b1 b3", "b1 b2", "b1 b2 b3"};
        int[] holds = {8, 5, 3, 2, 3, 2, 2, 2};
        for (int i = 0; i < acts.length; i++) {
            for (int setting = 0; setting <= 9; setting++) {
                BendOrders press = Script.made(LOW + "=9u2d1u2d3 s2=0 " + acts[i] + " L0");
                press.set(2, setting);
                boolean clamped = setting <= holds[i];
                int got = press.ofBend(0, 2);
                due.is("'" + acts[i] + "' for " + setting + ": holds", got == 3 ? 0 : 1, clamped ? 1 : 0);
            }
        }
        BendOrders press = Script.made("=9u9u1 s2=2");
        asks("the flanges ahead do not hold", press, 1, 3, 0);
        press.set(2, 1);
        asks("the flange behind does", press, 1, 0, 0);
        press = Script.made("=9u9u9u9 =9u1u1 s2=3");
        asks("flanges of the strip that was do not", press, 0, 3, 0);
        press.set(2, 2);
        asks("those of the strip do", press, 0, 0, 0);
        press.set(2, 1);
        asks("and the last one", press, 1, 0, 0);
    }

    /** "The reasons ... are asked in this order": each two of them that can stand against one bend. */
    private static void ofTwoReasonsTheFirstIsTold() {
        BendOrders press = Script.made("=3u5d5 b1 L0");
        asks("1 and 2", press, 1, 1, 0);
        press = Script.made("=3u5d5 b1 s2=9");
        asks("1 and 3", press, 1, 1, 0);
        asks("1 and 4", Script.made(LOW + "=1u5u2 b0 b1" + FIRST), 1, 1, 1);
        asks("1 and 5", Script.made(LOW + "=1u2d5 b0 b1 L0"), 0, 1, 0);
        asks("1 and 6", Script.made(LOW + "=5u3u3u1d6 b0 b2 b3 b1 f3 L0"), 0, 1, 0);
        asks("2 and 3", Script.made("=9d5 s2=6"), 0, 2, 0);
        press = Script.made("=3u5d5 b0");
        due.is("2 and 4", press.ofBend(1, 2), 2);
        due.is("2 and 4: strikers(1)", press.strikers(1) == 0 ? 0 : 1, 1);
        asks("2 and 5", Script.made(LOW + "=4d2d2 b1 L0"), 0, 2, 0);
        asks("2 and 6", Script.made(LOW + "=6d5u6u6 b1 b2 L0"), 0, 2, 0);
        asks("3 and 4", Script.made("=2u2u6 b1 s2=3"), 0, 3, 4);
        asks("3 and 5", Script.made(LOW + "=1u2d5 b1 L0 s2=3"), 0, 3, 0);
        asks("3 and 6", Script.made(LOW + "=2u2u2u2 b2 b1 s2=3"), 0, 3, 0);
        press = Script.made(LOW + "=4u2u2d6 b0 b2 L0" + FIRST);
        asks("4 and 5", press, 1, 4, 1);
        press = Script.made(LOW + "=5u2u1u3 b0 b2");
        due.is("4 and 6", press.ofBend(1, 2), 4);
        asks("5 and 6", Script.made(LOW + "=3u3u2u3 b0 b1"), 2, 5, 0);
        asks("6 alone", Script.made(LOW + "=2u2u2u2 b2 b1"), 0, 6, 0);
        asks("none", Script.made(LOW + "=2u2u2u1 b2 b1"), 0, 0, 0);
        // what stands against it behind the first reason is told when that one is gone
        asks("4 when 3 is gone", Script.made("=2u2u6 b1 s2=2"), 0, 4, 4);
        asks("5 when 3 is gone", Script.made(LOW + "=1u2d5 b1 L0 s2=2"), 0, 5, 0);
        asks("6 when 3 is gone", Script.made(LOW + "=2u2u2u2 b2 b1 s2=2"), 0, 6, 0);
        asks("5 when 4 is gone", Script.made(LOW + "=4u2u2d6 b0 b2 L0"), 1, 5, 0);
        asks("4 when 2 is gone", Script.made("=3u5u5 b0"), 1, 4, 1);
    }

    /** "4 for the reason if the strip lay over (the other way than now)": it is that of the strip when it is laid so. */
    private static void theReasonOfTheOtherWay() {
        String[] made = {"=5u5", "=5d5", "=3u5d5 b1", "=2u2u6 b1", LOW + "=4d2d1u2 b0 b1", "=9d5 s2=6",
            LOW + "=2u2u2u2 b2 b1", LOW + "=6d5u6u6 b1 b2 L0", "=9u9d9u9 b1"};
        int[] met = new int[7];
        for (String steps : made) {
            BendOrders press = Script.made(steps);
            BendOrders other = Script.made(steps + " o");
            for (int bend = 0; bend < press.count(0); bend++) {
                due.is(steps + ": ofBend(" + bend + ", 4)", press.ofBend(bend, 4), other.ofBend(bend, 2));
                due.is(steps + " o: ofBend(" + bend + ", 4)", other.ofBend(bend, 4), press.ofBend(bend, 2));
                met[press.ofBend(bend, 4)]++;
                met[press.ofBend(bend, 2)]++;
            }
        }
        for (int reason = 0; reason <= 6; reason++) {
            due.holds("the reason " + reason + " is met", met[reason] > 0);
        }
    }

    private static void strikersAreToldWhateverElseStandsAgainstIt() {
        BendOrders press = Script.made("=2u2u6 b1");
        due.is("4: strikers(0)", press.strikers(0), 4);
        press.set(2, 9);
        asks("3", press, 0, 3, 4);
        press = Script.made("=2d2u6 b1 L0");
        asks("2", press, 0, 2, 4);
        press = Script.made(LOW + "=1u5u2 b0 b1");
        asks("1, a low tool", press, 1, 1, 0);
        press.set(0, 5);
        asks("1, a high one", press, 1, 1, 1);
        press.layOver();
        asks("1, laid over", press, 1, 1, 0);
    }

    /** The set of all flanges that strike, in the flat shape and in the one behind bending, with their first bits. */
    private static void strikersAreOfBothShapesAndAllFlanges() {
        BendOrders press = Script.made("=4u1d1u5 s1=0 b2 b0 L0");
        due.is("the first and the last flange: strikers(1)", press.strikers(1), 1 + 8);
        press = Script.made(LOW + "=1u1u1u1u1u1u9u9 b0 s0=12 s1=3");
        for (int bend = 1; bend <= 5; bend++) {
            due.is("the flange 0 at y = " + bend + ": strikers(" + bend + ")", press.strikers(bend), 1);
        }
        due.is("the flange 0 at y = 14: strikers(6)", press.strikers(6), 0);
        press = Script.made(LOW + "=9u1u1u1u1u1u1u9 b6 s0=12 s1=3");
        int[] wants = {0, 0, 128, 128, 128, 128};
        for (int bend = 0; bend <= 5; bend++) {
            due.is("the flange 7 at x = " + (6 - bend) + ": strikers(" + bend + ")", press.strikers(bend), wants[bend]);
        }
    }
}
