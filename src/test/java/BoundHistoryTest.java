import java.util.List;

/** The boundaries of the history and the snapshot (Terms: history) and of the promises 12 to 14, and the 512th call. */
public final class BoundHistoryTest {
    private static final Due due = new Due("BoundHistoryTest");
    // one step of each act, none of which is refused behind the others
    private static final String[] ACTS = {"=9u9d9u9", "l0=8", "v0", "s0=12", "o", "b1", "f1", "n2", "r"};

    public static void main(String[] arguments) {
        theHistoryHoldsAtMostFour();
        theOldestIsDropped();
        undoTellsHowManyAreLeft();
        undoIsNoAct();
        eachActIsRecordedOnce();
        eachActIsUndone();
        whatIsNoActIsNotRecorded();
        theTextIsOfNoState();
        theSnapshotIsOfNoState();
        theHistoryIsOfNoState();
        theSnapshotIsEmptyAtFirst();
        keepTakesThePlaceOfTheOneThatWas();
        restoreTellsHowManyAreDone();
        restoreIsAnActThoughNothingChanges();
        aStateIsEverythingElse();
        statesAreNotTheSameObject();
        the512thCallIsPromised();
        due.close();
    }

    /** The length of the flange 0 tells the states apart: the act number n makes it n. */
    private static BendOrders afterActs(int acts) {
        BendOrders press = new BendOrders();
        for (int act = 1; act <= acts; act++) {
            press.setLength(0, lengthBehind(act));
        }
        return press;
    }

    private static int lengthBehind(int act) {
        return act == 0 ? 5 : 1 + (act + 5) % 9;
    }

    private static void theHistoryHoldsAtMostFour() {
        for (int acts = 0; acts <= 20; acts++) {
            BendOrders press = afterActs(acts);
            due.is(acts + " acts: count(12)", press.count(12), Math.min(4, acts));
            due.is(acts + " acts: lengthOf(0)", press.lengthOf(0), lengthBehind(acts));
        }
    }

    /** "when one more is recorded, the oldest one is dropped": the fifth drops the state that was first. */
    private static void theOldestIsDropped() {
        for (int acts = 0; acts <= 20; acts++) {
            BendOrders press = afterActs(acts);
            int back = acts;
            for (int left = Math.min(4, acts) - 1; left >= 0; left--) {
                back--;
                due.is(acts + " acts: undo()", press.undo(), left);
                due.is(acts + " acts: lengthOf(0)", press.lengthOf(0), lengthBehind(back));
            }
            due.is(acts + " acts: undo() of none", press.undo(), -1005);
            due.is(acts + " acts: lengthOf(0) at last", press.lengthOf(0), lengthBehind(Math.max(0, acts - 4)));
        }
    }

    private static void undoTellsHowManyAreLeft() {
        BendOrders press = new BendOrders();
        for (int time = 0; time < 3; time++) {
            due.is("undo() of none", press.undo(), -1005);
            due.is("count(12)", press.count(12), 0);
        }
        press.layOver();
        due.is("undo() of one", press.undo(), 0);
        due.is("undo() of none", press.undo(), -1005);
        press = Script.made("o l0=1 o l0=2");
        for (int left = 3; left >= 0; left--) {
            due.is("undo()", press.undo(), left);
            due.is("count(12)", press.count(12), left);
        }
        due.is("undo() of none", press.undo(), -1005);
    }

    /** What is undone is gone: an act behind it is recorded in its place, and there is no way back to it. */
    private static void undoIsNoAct() {
        BendOrders press = Script.made("l0=1 l0=2 l0=3 l0=4 z z");
        due.is("lengthOf(0)", press.lengthOf(0), 2);
        due.is("count(12)", press.count(12), 2);
        press.setLength(0, 9);
        due.is("count(12) behind one more act", press.count(12), 3);
        int[] lengths = {2, 1, 5};
        for (int i = 0; i < 3; i++) {
            due.is("undo()", press.undo(), 2 - i);
            due.is("lengthOf(0)", press.lengthOf(0), lengths[i]);
        }
        press = Script.made("l0=1 l0=2 l0=3 l0=4 l0=6 z z z z l1=1 l1=2 l1=3 l1=4");
        due.is("four acts behind four undone: count(12)", press.count(12), 4);
        press.setLength(1, 6);
        due.is("the fifth: count(12)", press.count(12), 4);
        for (int left = 3; left >= 0; left--) {
            due.is("undo()", press.undo(), left);
            due.is("lengthOf(1)", press.lengthOf(1), left + 1);
            due.is("lengthOf(0)", press.lengthOf(0), 1);
        }
    }

    private static void eachActIsRecordedOnce() {
        StringBuilder steps = new StringBuilder("k o z");
        for (int acts = 0; acts < ACTS.length; acts++) {
            BendOrders press = Script.made(steps.toString());
            due.is("behind '" + steps + "': count(12)", press.count(12), Math.min(4, acts));
            steps.append(' ').append(ACTS[acts]);
        }
        due.is("behind '" + steps + "': count(12)", Script.made(steps.toString()).count(12), 4);
    }

    /** Each act behind each number of acts: undo() tells what was told before it, but for the history. */
    private static void eachActIsUndone() {
        String steps = "k o z";
        for (String act : ACTS) {
            for (String ahead : new String[] {"", " o", " o o o", " o o o o", " o o o o o o"}) {
                // so that the step b1 need not lay it over, which would be an act more
                String before = steps + ahead + " L1";
                BendOrders press = Script.made(before + " " + act + " z");
                // a text that the step types is of no state
                BendOrders same = Script.made(before + (act.startsWith("=") ? " c t" + act.substring(1) : ""));
                List<String> want = Script.toldBut(same, "count(12)");
                due.holds(act + " is undone behind '" + before + "'", Script.toldBut(press, "count(12)").equals(want));
                due.is("count(12)", press.count(12), Math.min(3, same.count(12)));
            }
            steps = steps + " " + act;
        }
    }

    private static void whatIsNoActIsNotRecorded() {
        for (int acts = 0; acts <= 5; acts++) {
            BendOrders press = afterActs(acts);
            press.type('1');
            press.clearText();
            press.keep();
            Script.told(press);
            due.is(acts + " acts: count(12)", press.count(12), Math.min(4, acts));
            press.undo();
            due.is(acts + " acts: lengthOf(0)", press.lengthOf(0), lengthBehind(Math.max(0, acts - 1)));
        }
    }

    private static void theTextIsOfNoState() {
        BendOrders press = Script.made("t1u2 k o t3 z");
        due.is("undo(): count(13)", press.count(13), 4);
        press.clearText();
        due.is("restore()", press.restore(), 0);
        due.is("restore(): count(13)", press.count(13), 0);
        press = Script.made("t1u2 o c t9d8u7 z");
        due.is("undo(): count(13)", press.count(13), 5);
        due.is("undo(): takeStrip()", press.takeStrip(), 2);
        due.is("undo(): lengthOf(2)", press.lengthOf(2), 7);
    }

    /** keep() is not undone, and undo() takes no snapshot away. */
    private static void theSnapshotIsOfNoState() {
        BendOrders press = Script.made("l0=1 k l0=2 z z");
        due.is("lengthOf(0)", press.lengthOf(0), 5);
        due.is("restore()", press.restore(), 0);
        due.is("lengthOf(0)", press.lengthOf(0), 1);
        press = Script.made("l0=1 k l0=2 l0=3 k z z z");
        due.is("restore() of the later one", press.restore(), 0);
        due.is("lengthOf(0)", press.lengthOf(0), 3);
        press.setLength(0, 7);
        press.undo();
        press.undo();
        due.is("restore() again", press.restore(), 0);
        due.is("lengthOf(0)", press.lengthOf(0), 3);
    }

    private static void theHistoryIsOfNoState() {
        BendOrders press = Script.made("l0=1 k l0=2 l0=3 r");
        due.is("restore(): count(12)", press.count(12), 4);
        int[] lengths = {3, 2, 1, 5};
        for (int i = 0; i < 4; i++) {
            due.is("undo()", press.undo(), 3 - i);
            due.is("lengthOf(0)", press.lengthOf(0), lengths[i]);
        }
        due.is("undo() of none", press.undo(), -1005);
        due.is("restore()", press.restore(), 0);
        due.is("count(12)", press.count(12), 1);
    }

    private static void theSnapshotIsEmptyAtFirst() {
        for (String steps : new String[] {"", "o", "l0=1 l0=2 l0=3 l0=4 l0=6", "n1", "o z"}) {
            BendOrders press = Script.made(steps);
            List<String> before = Script.told(press);
            due.is("'" + steps + "': restore() of none", press.restore(), -1005);
            due.holds("'" + steps + "': it changes nothing", Script.told(press).equals(before));
            press.keep();
            due.is("'" + steps + "': restore() of one", press.restore(), press.count(1));
        }
    }

    private static void keepTakesThePlaceOfTheOneThatWas() {
        BendOrders press = Script.made("=9u9d9u9");
        for (int done = 0; done <= 3; done++) {
            due.is(done + " are done: keep()", press.keep(), done);
            due.is(done + " are done: keep() again", press.keep(), done);
            press.follow(1);
        }
        due.is("restore() of the last one", press.restore(), 3);
        press.flatten(0);
        due.is("keep() of two", press.keep(), 2);
        press.flatten(1);
        press.flatten(2);
        due.is("restore()", press.restore(), 2);
        due.is("ofBend(0, 1)", press.ofBend(0, 1), 0);
        due.is("ofBend(1, 1)", press.ofBend(1, 1), 1);
    }

    private static void restoreTellsHowManyAreDone() {
        for (int done = 0; done <= 7; done++) {
            String follow = done == 0 ? "" : " n" + done;
            BendOrders press = Script.made("=9u9d9u9d9u9d9u9" + follow + " k c t1u1");
            press.takeStrip();
            for (int time = 1; time <= 3; time++) {
                due.is(done + " are done: restore()", press.restore(), done);
                due.is(done + " are done: count(1)", press.count(1), done);
                due.is(done + " are done: count(0)", press.count(0), 7);
            }
        }
    }

    private static void restoreIsAnActThoughNothingChanges() {
        BendOrders press = Script.made("k");
        for (int time = 1; time <= 6; time++) {
            due.is("restore() number " + time, press.restore(), 0);
            due.is("count(12)", press.count(12), Math.min(4, time));
        }
    }

    /** "A state is everything but the text, the history and the snapshot": what restore() and undo() bring back. */
    private static void aStateIsEverythingElse() {
        String[] states = {"", "o", "=1u2d3u4d5u6d7u8", "=9u9d9u9 s0=12 s1=3 s2=9 s3=9 n2", "=9d9u9 n2 f1 o",
            "s0=1 s1=0 s2=0 s3=0 =2u3u5u5u6 b0 b1 b2 b3 f0"};
        for (String state : states) {
            for (String other : states) {
                BendOrders kept = Script.made(state + " c");
                List<String> want = Script.toldBut(kept, "count(12)");
                BendOrders press = Script.made(state + " c k " + other + " c r");
                due.holds("'" + state + "' is restored behind '" + other + "'",
                    Script.toldBut(press, "count(12)").equals(want));
                press = Script.made(other + " c k " + state + " c r z");
                due.holds("'" + state + "' is brought back from '" + other + "'",
                    Script.toldBut(press, "count(12)").equals(Script.toldBut(Script.made(other + " " + state + " c"),
                        "count(12)")));
            }
        }
    }

    /** What is changed behind keep(), restore(), an act or undo() does not reach into what was recorded. */
    private static void statesAreNotTheSameObject() {
        BendOrders press = Script.made("=9u9 k r l0=1 v0 s0=2");
        due.is("restore()", press.restore(), 0);
        due.is("lengthOf(0)", press.lengthOf(0), 9);
        due.is("ofBend(0, 0)", press.ofBend(0, 0), 1);
        due.is("count(8)", press.count(8), 6);
        press.setLength(0, 2);
        due.is("undo()", press.undo(), 3);
        press.setLength(0, 3);
        due.is("restore() again", press.restore(), 0);
        due.is("lengthOf(0)", press.lengthOf(0), 9);
        press.undo();
        due.is("lengthOf(0) behind undo()", press.lengthOf(0), 3);
    }

    private static void the512thCallIsPromised() {
        BendOrders press = new BendOrders();
        for (int pair = 1; pair <= 255; pair++) {
            due.is("bend(0) number " + pair, press.bend(0), 1);
            due.is("flatten(0) number " + pair, press.flatten(0), 0);
        }
        due.is("the call 511: count(12)", press.count(12), 4);
        due.is("the call 512: count(7)", press.count(7), 255);
        press = new BendOrders();
        for (int call = 1; call <= 511; call++) {
            press.layOver();
        }
        due.is("the call 512: layOver()", press.layOver(), 0);
        press = new BendOrders();
        for (int call = 1; call <= 511; call++) {
            due.is("type number " + call, press.type('1'), call <= 60 ? call : -1003);
        }
        due.is("the call 512: clearText()", press.clearText(), 60);
        press = Script.made("s0=1 s1=0 =8u9d5u8d9u5u9u1");
        // nineteen calls have made it
        for (int call = 20; call <= 511; call++) {
            press.set(1, call % 2);
        }
        due.is("the call 512: orders()", press.orders(), 5040);
    }
}
