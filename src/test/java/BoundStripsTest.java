/** The boundaries of strips (Terms: strips and shapes, springing back, texts) and of the promises 1 to 5. */
public final class BoundStripsTest {
    private static final Due due = new Due("BoundStripsTest");
    private static final int MIN = Integer.MIN_VALUE;
    private static final int MAX = Integer.MAX_VALUE;
    private static final String[] STRIPS = {"5u5", "1u9d1", "1u1u1u1", "1d2u3d4u5", "9d8u7d6u5d4", "2u2d2u2d2u2d2",
        "1u2u3d4d5u6u7d8"};

    public static void main(String[] arguments) {
        aNewObjectIsAStripOfTwoFives();
        aStripHasOneToSevenBends();
        bendsAndFlangesAreNumberedFrom0();
        eachFlangeIs1To9();
        aLengthIsNotChangedIfAnyBendIsDone();
        aLengthThatIsSoAlreadyIsNone();
        anUpIsNotChangedIfAnyBendIsDone();
        anUpThatIsSoAlreadyIsNone();
        setUpTellsAllThatAreToBeUpThen();
        eachSettingHasItsRange();
        aSettingThatIsSoAlreadyIsNone();
        settingsStandAloneAndMayBeSetAtAnyTime();
        takeStripBeginsFlatAndNotLaidOver();
        takeStripKeepsTheTextAndTheSettings();
        springingBackOfEachLengthAndSetting();
        springingBackIsOfTheFlangeBehind();
        due.close();
    }

    /** "Creates a strip of two flanges of the length 5, with a bend up"; nothing else is there at first. */
    private static void aNewObjectIsAStripOfTwoFives() {
        BendOrders press = new BendOrders();
        int[] counts = {1, 0, 0, 1, 1, 0, 10, 0, 6, 1, 1, 3, 0, 0};
        for (int what = 0; what <= 13; what++) {
            due.is("new: count(" + what + ")", press.count(what), counts[what]);
        }
        int[] bend = {1, 0, 0, 90, 2};
        for (int what = 0; what <= 4; what++) {
            due.is("new: ofBend(0, " + what + ")", press.ofBend(0, what), bend[what]);
        }
        int[] lengths = {-1001, 5, 5, -1001};
        int[] ends = {-1001, -5, 5, -1001};
        for (int flange = -1; flange <= 2; flange++) {
            due.is("new: lengthOf(" + flange + ")", press.lengthOf(flange), lengths[flange + 1]);
            due.is("new: end(0, " + flange + ", false)", press.end(0, flange, false), ends[flange + 1]);
        }
        due.is("new: end(0, 0, true)", press.end(0, 0, true), 0);
        due.is("new: end(0, 1, true)", press.end(0, 1, true), 0);
        due.is("new: strikers(0)", press.strikers(0), 0);
        due.is("new: orders()", press.orders(), 1);
        due.is("new: order(0)", press.order(0), 0);
        due.is("new: order(1)", press.order(1), -1005);
        due.is("new: undo()", press.undo(), -1005);
        due.is("new: restore()", press.restore(), -1005);
        due.is("new: takeStrip()", press.takeStrip(), -1100);
        due.is("new: clearText()", press.clearText(), 0);
        due.is("new: bend(0)", press.bend(0), 1);
        BendOrders other = new BendOrders();
        due.is("another new one has a strip of its own", other.count(1), 0);
    }

    /** "A strip has 1 to 7 bends ... and one flange more". */
    private static void aStripHasOneToSevenBends() {
        BendOrders press = new BendOrders();
        Due.type(press, "5");
        due.is("a strip of no bend", press.takeStrip(), -1101);
        StringBuilder text = new StringBuilder("1");
        for (int bends = 1; bends <= 7; bends++) {
            text.append("u1");
            Due.type(press, text.toString());
            due.is("a strip of " + bends, press.takeStrip(), bends);
            due.is("its bends", press.count(0), bends);
            due.is("its flanges are one more", press.count(6), bends + 1);
            due.is("its last flange", press.lengthOf(bends), 1);
            due.is("one behind its last flange", press.lengthOf(bends + 1), -1001);
        }
        Due.type(press, text + "u1");
        due.is("a strip of 8", press.takeStrip(), -1115);
        due.is("the strip of 7 is left", press.count(0), 7);
        Due.type(press, "1u1");
        due.is("a strip of 1 behind one of 7", press.takeStrip(), 1);
        due.is("its whole length", press.count(6), 2);
        due.is("the flange 2 is gone", press.lengthOf(2), -1001);
    }

    /** "numbered from 0 along it": each call that takes a bend or a flange, at -1, 0, the last one and one more. */
    private static void bendsAndFlangesAreNumberedFrom0() {
        for (String strip : STRIPS) {
            int bends = strip.length() / 2;
            BendOrders press = Script.made("=" + strip);
            for (int bend : new int[] {MIN, -8, -1, bends, bends + 1, 7, 8, 31, 32, 64, MAX}) {
                if (bend >= 0 && bend < bends) {
                    continue;
                }
                String of = strip + ": the bend " + bend + ": ";
                due.is(of + "setUp", press.setUp(bend, bend % 2 == 0), -1001);
                due.is(of + "bend", press.bend(bend), -1001);
                due.is(of + "flatten", press.flatten(bend), -1001);
                due.is(of + "ofBend", press.ofBend(bend, 0), -1001);
                due.is(of + "end", press.end(bend, 0, false), -1001);
                due.is(of + "strikers", press.strikers(bend), -1001);
                due.is(of + "mustWait", press.mustWait(bend, 0), -1001);
                due.is(of + "mustWait for it", press.mustWait(0, bend), -1001);
            }
            for (int flange : new int[] {MIN, -8, -1, bends + 1, bends + 2, 8, 9, 32, MAX}) {
                if (flange >= 0 && flange <= bends) {
                    continue;
                }
                String of = strip + ": the flange " + flange + ": ";
                due.is(of + "setLength", press.setLength(flange, 4), -1001);
                due.is(of + "lengthOf", press.lengthOf(flange), -1001);
                due.is(of + "end", press.end(0, flange, true), -1001);
            }
            due.is(strip + ": its history", press.count(12), 1);
            for (int bend = 0; bend < bends; bend++) {
                due.is(strip + ": up or not " + bend, press.ofBend(bend, 0), strip.charAt(2 * bend + 1) == 'u' ? 1 : 0);
            }
            for (int flange = 0; flange <= bends; flange++) {
                due.is(strip + ": length of " + flange, press.lengthOf(flange), strip.charAt(2 * flange) - '0');
            }
        }
    }

    /** "each flange has a length (1 to 9)": of each flange of the shortest and the longest strip. */
    private static void eachFlangeIs1To9() {
        for (String strip : new String[] {"5u5", "5u5u5u5u5u5u5u5"}) {
            int bends = strip.length() / 2;
            for (int flange = 0; flange <= bends; flange++) {
                BendOrders press = Script.made("=" + strip);
                String of = strip + ": setLength(" + flange + ", ";
                int previous = 5;
                for (int length : new int[] {1, 9, 2, 8}) {
                    due.is(of + length + ")", press.setLength(flange, length), previous);
                    due.is(strip + ": lengthOf(" + flange + ")", press.lengthOf(flange), length);
                    due.is(strip + ": count(6)", press.count(6), 5 * bends + length);
                    previous = length;
                }
                for (int length : new int[] {MIN, -1, 0, 10, 11, 265, MAX}) {
                    due.is(of + length + ")", press.setLength(flange, length), -1002);
                    due.is(strip + ": lengthOf(" + flange + ")", press.lengthOf(flange), 8);
                }
                for (int other = 0; other <= bends; other++) {
                    due.is(strip + ": lengthOf(" + other + ")", press.lengthOf(other), other == flange ? 8 : 5);
                }
            }
        }
    }

    /** "NOT_POSSIBLE if any bend is done": the first, one within, the last, all; not behind the last flattening. */
    private static void aLengthIsNotChangedIfAnyBendIsDone() {
        for (String acts : new String[] {"b0", "b1", "b2", "b0 b1 b2", "b2 b1", "b0 b1 f0", "b1 o"}) {
            BendOrders press = Script.made("=9u9d9u9 " + acts);
            int history = press.count(12);
            for (int flange = 0; flange <= 3; flange++) {
                due.is(acts + ": setLength(" + flange + ", 8)", press.setLength(flange, 8), -1004);
                due.is(acts + ": setLength(" + flange + ", 9), as it is", press.setLength(flange, 9), -1004);
                due.is(acts + ": setLength(" + flange + ", 10)", press.setLength(flange, 10), -1002);
                due.is(acts + ": setLength(" + flange + ", 0)", press.setLength(flange, 0), -1002);
                due.is(acts + ": lengthOf(" + flange + ")", press.lengthOf(flange), 9);
            }
            due.is(acts + ": setLength(4, 10)", press.setLength(4, 10), -1001);
            due.is(acts + ": setLength(4, 8)", press.setLength(4, 8), -1001);
            due.is(acts + ": setLength(-1, 9)", press.setLength(-1, 9), -1001);
            due.is(acts + ": its history", press.count(12), history);
        }
        for (String acts : new String[] {"o", "b0 f0", "b0 z", "b0 b1 f1 f0", "b1 =9u9d9u9"}) {
            BendOrders press = Script.made("=9u9d9u9 " + acts);
            due.is(acts + ": setLength(3, 8)", press.setLength(3, 8), 9);
            due.is(acts + ": setLength(3, 8) again", press.setLength(3, 8), -1005);
        }
    }

    private static void aLengthThatIsSoAlreadyIsNone() {
        for (int length = 1; length <= 9; length++) {
            BendOrders press = Script.made("=" + length + "u" + length);
            for (int other = 1; other <= 9; other++) {
                int history = press.count(12);
                int want = other == length ? -1005 : length;
                due.is("of " + length + ": setLength(1, " + other + ")", press.setLength(1, other), want);
                due.is("its history", press.count(12), want == -1005 ? history : history + 1);
                if (want != -1005) {
                    press.undo();
                }
            }
        }
    }

    private static void anUpIsNotChangedIfAnyBendIsDone() {
        for (String acts : new String[] {"b0", "b1", "b2", "b0 b1 b2", "b2 b1", "b0 b1 f0", "b1 o"}) {
            BendOrders press = Script.made("=9u9d9u9 " + acts);
            int history = press.count(12);
            for (int bend = 0; bend <= 2; bend++) {
                due.is(acts + ": setUp(" + bend + ", true)", press.setUp(bend, true), -1004);
                due.is(acts + ": setUp(" + bend + ", false)", press.setUp(bend, false), -1004);
                due.is(acts + ": ofBend(" + bend + ", 0)", press.ofBend(bend, 0), bend == 1 ? 0 : 1);
            }
            due.is(acts + ": setUp(3, true)", press.setUp(3, true), -1001);
            due.is(acts + ": setUp(-1, false)", press.setUp(-1, false), -1001);
            due.is(acts + ": its history", press.count(12), history);
        }
        for (String acts : new String[] {"o", "b0 f0", "b0 z", "b0 b1 f1 f0", "b1 =9u9d9u9"}) {
            BendOrders press = Script.made("=9u9d9u9 " + acts);
            due.is(acts + ": setUp(2, false)", press.setUp(2, false), 1);
            due.is(acts + ": setUp(2, false) again", press.setUp(2, false), -1005);
        }
    }

    private static void anUpThatIsSoAlreadyIsNone() {
        for (String laid : new String[] {"", " o"}) {
            BendOrders press = Script.made("=5u5d5" + laid);
            int history = press.count(12);
            due.is("setUp(0, true)" + laid, press.setUp(0, true), -1005);
            due.is("setUp(1, false)" + laid, press.setUp(1, false), -1005);
            due.is("its history", press.count(12), history);
            due.is("setUp(0, false)" + laid, press.setUp(0, false), 0);
            due.is("setUp(0, false) again" + laid, press.setUp(0, false), -1005);
            due.is("setUp(1, true)" + laid, press.setUp(1, true), 1);
            due.is("setUp(0, true)" + laid, press.setUp(0, true), 2);
        }
    }

    /** From none of seven to all seven, and back. */
    private static void setUpTellsAllThatAreToBeUpThen() {
        BendOrders press = Script.made("=1d1d1d1d1d1d1d1");
        for (int bend = 0; bend < 7; bend++) {
            due.is("setUp(" + bend + ", true)", press.setUp(bend, true), bend + 1);
            due.is("ofBend(" + bend + ", 0)", press.ofBend(bend, 0), 1);
        }
        for (int bend = 0; bend < 7; bend++) {
            due.is("setUp(" + bend + ", false)", press.setUp(bend, false), 6 - bend);
            due.is("ofBend(" + bend + ", 0)", press.ofBend(bend, 0), 0);
        }
        press = Script.made("=1u1u1u1u1u1u1u1 =1u1u1");
        due.is("behind a longer strip: setUp(0, false)", press.setUp(0, false), 1);
        due.is("behind a longer strip: setUp(1, false)", press.setUp(1, false), 0);
    }

    private static void eachSettingHasItsRange() {
        int[] first = {6, 1, 1, 3};
        int[] least = {1, 0, 0, 0};
        int[] most = {12, 3, 9, 9};
        for (int which = 0; which < 4; which++) {
            for (int value = -2; value <= 14; value++) {
                BendOrders press = new BendOrders();
                boolean inside = value >= least[which] && value <= most[which];
                int want = !inside ? -1002 : value == first[which] ? -1005 : first[which];
                due.is("set(" + which + ", " + value + ")", press.set(which, value), want);
                due.is("count(" + (8 + which) + ")", press.count(8 + which), inside ? value : first[which]);
                due.is("its history", press.count(12), want >= 0 ? 1 : 0);
            }
            for (int value : new int[] {MIN, MIN + first[which], MAX, 256 + first[which], 65536 + first[which]}) {
                due.is("set(" + which + ", " + value + ")", new BendOrders().set(which, value), -1002);
            }
        }
        for (int which : new int[] {MIN, -4, -1, 4, 5, 8, MAX}) {
            for (int value : new int[] {-1, 0, 1, 2, 3, 13}) {
                due.is("set(" + which + ", " + value + ")", new BendOrders().set(which, value), -1002);
            }
        }
    }

    private static void aSettingThatIsSoAlreadyIsNone() {
        int[] least = {1, 0, 0, 0};
        int[] most = {12, 3, 9, 9};
        for (int which = 0; which < 4; which++) {
            BendOrders press = new BendOrders();
            press.set(which, least[which]);
            due.is("set(" + which + ", least) again", press.set(which, least[which]), -1005);
            due.is("set(" + which + ", most)", press.set(which, most[which]), least[which]);
            due.is("set(" + which + ", most) again", press.set(which, most[which]), -1005);
            due.is("its history", press.count(12), 2);
        }
    }

    private static void settingsStandAloneAndMayBeSetAtAnyTime() {
        BendOrders press = Script.made("=9u9d9u9 b1 b0");
        due.is("bent: set(0, 12)", press.set(0, 12), 6);
        due.is("bent: set(1, 3)", press.set(1, 3), 1);
        due.is("bent: set(2, 9)", press.set(2, 9), 1);
        due.is("bent: set(3, 9)", press.set(3, 9), 3);
        int[] most = {12, 3, 9, 9};
        int[] least = {1, 0, 0, 0};
        for (int which = 0; which < 4; which++) {
            due.is("set(" + which + ", least)", press.set(which, least[which]), most[which]);
            for (int other = 0; other < 4; other++) {
                int want = other <= which ? least[other] : most[other];
                due.is("count(" + (8 + other) + ")", press.count(8 + other), want);
            }
        }
        due.is("the bends are as they were", press.count(1), 2);
    }

    /** "no bend is done, and it is not laid over": of a strip that was all bent and laid over. */
    private static void takeStripBeginsFlatAndNotLaidOver() {
        for (String acts : new String[] {"", "o", "b0", "b1 L1", "b0 b1 b2 L0", "b0 b1 b2 L1"}) {
            BendOrders press = Script.made("=9u9d9u9 " + acts + " c t5d5d5d5");
            int bendings = press.count(7);
            due.is(acts + ": takeStrip()", press.takeStrip(), 3);
            due.is(acts + ": done", press.count(1), 0);
            due.is(acts + ": laid over", press.count(2), 0);
            due.is(acts + ": bendings stay", press.count(7), bendings);
            for (int bend = 0; bend < 3; bend++) {
                due.is(acts + ": ofBend(" + bend + ", 0)", press.ofBend(bend, 0), 0);
                due.is(acts + ": ofBend(" + bend + ", 1)", press.ofBend(bend, 1), 0);
            }
        }
    }

    private static void takeStripKeepsTheTextAndTheSettings() {
        BendOrders press = Script.made("t9u9d9 s0=12 s1=3 s2=9 s3=9");
        for (int time = 1; time <= 6; time++) {
            due.is("takeStrip() number " + time, press.takeStrip(), 2);
            due.is("its text", press.count(13), 5);
            due.is("its history", press.count(12), 4);
            int[] most = {12, 3, 9, 9};
            for (int which = 0; which < 4; which++) {
                due.is("its setting " + which, press.count(8 + which), most[which]);
            }
        }
    }

    /** "by how many for a flange of the length 1, and 1 less for each unit that it is longer, at least 0". */
    private static void springingBackOfEachLengthAndSetting() {
        for (int length = 1; length <= 9; length++) {
            for (int setting = 0; setting <= 9; setting++) {
                BendOrders press = Script.made("=9u" + length);
                press.set(3, setting);
                int want = 90;
                for (int unit = length; unit <= setting; unit++) {
                    want++;
                }
                String call = "the length " + length + ", the setting " + setting + ": ofBend(0, 3)";
                due.is(call, press.ofBend(0, 3), want);
                press.bend(0);
                due.is(call + " when done", press.ofBend(0, 3), want);
            }
        }
    }

    /** The flange b + 1 alone: not b, and not those that go straight on from it. */
    private static void springingBackIsOfTheFlangeBehind() {
        BendOrders press = Script.made("=9u1d2u3d4u5d6u9 s3=9");
        int[] wants = {99, 98, 97, 96, 95, 94, 91};
        for (int bend = 0; bend < 7; bend++) {
            due.is("ofBend(" + bend + ", 3)", press.ofBend(bend, 3), wants[bend]);
        }
        press.layOver();
        for (int bend = 0; bend < 7; bend++) {
            due.is("laid over: ofBend(" + bend + ", 3)", press.ofBend(bend, 3), wants[bend]);
        }
        press = Script.made("=1u9 s3=9");
        due.is("a short flange ahead of a long one", press.ofBend(0, 3), 91);
    }
}
