import java.util.ArrayList;
import java.util.List;
import java.util.function.ToIntFunction;

/**
 * The order of the checks of each call, and what a call leaves as it was (Terms: errors): calls with arguments at all
 * boundaries, in states of all kinds, each beside an object on which the call was not made.
 */
public final class RefusalsTest {
    private static final Due due = new Due("RefusalsTest");
    private static final int MIN = Integer.MIN_VALUE;
    private static final int MAX = Integer.MAX_VALUE;
    private static final String SIXTY = "t5u5555555555555555555555555555555555555555555555555555555555";
    private static final String[] STATES = {
        "",
        "k t1u",
        "o o o o o t9",
        "=5u5 n1 k s2=9",
        "=4u3u4 b0 k",
        "k =4u3u4 l0=5 l1=4 v0 o c",
        "=9u9u9u9 c t0",
        "=5u3d3u5 s3=9 n2 k f0 o",
        "=9u9d9 s0=12 s1=3 s2=9 s3=0 n7 k c t1d1d1x",
        "s0=1 s1=0 =2u2u2u2 b2 b1",
        "=9u9d9u9d9u9d9u9 n3 z c " + SIXTY};
    private static final int[] INDEXES = {MIN, -1, 0, 1, 2, 3, 6, 7, 8, 32, MAX};
    private static final int[] LENGTHS = {MIN, 0, 1, 5, 9, 10, MAX};
    private static final int[] SETTINGS = {MIN, -1, 0, 1, 3, 4, 6, 9, 10, 12, 13, MAX};

    /** A call as it is told, and whether the document says that it is an act. */
    private record Call(String told, boolean act, ToIntFunction<BendOrders> asked) {
    }

    private static final Call NOTHING = new Call("", false, press -> 0);

    public static void main(String[] arguments) {
        checksOfSetLength();
        checksOfSetUp();
        checksOfSet();
        checksOfBendAndFlatten();
        checksOfFollow();
        checksOfWhatIsTold();
        checksOfOrderAndMustWait();
        checksOfTextsAndHistory();
        for (String state : STATES) {
            changesAsItShould(state);
        }
        due.close();
    }

    private static void answers(String state, String call, int got, int want) {
        due.is("'" + state + "': " + call, got, want);
    }

    /** UNKNOWN; BAD_VALUE; NOT_POSSIBLE; NONE: each two of them that can stand against one call. */
    private static void checksOfSetLength() {
        String bent = "=5u5 b0";
        answers(bent, "setLength(2, 10)", Script.made(bent).setLength(2, 10), -1001);
        answers(bent, "setLength(2, 6)", Script.made(bent).setLength(2, 6), -1001);
        answers(bent, "setLength(-1, 5)", Script.made(bent).setLength(-1, 5), -1001);
        answers(bent, "setLength(0, 10)", Script.made(bent).setLength(0, 10), -1002);
        answers(bent, "setLength(1, 0)", Script.made(bent).setLength(1, 0), -1002);
        answers(bent, "setLength(0, 6)", Script.made(bent).setLength(0, 6), -1004);
        answers(bent, "setLength(0, 5)", Script.made(bent).setLength(0, 5), -1004);
        answers("", "setLength(2, 0)", new BendOrders().setLength(2, 0), -1001);
        answers("", "setLength(1, 10)", new BendOrders().setLength(1, 10), -1002);
        answers("", "setLength(1, 5)", new BendOrders().setLength(1, 5), -1005);
        answers("", "setLength(1, 6)", new BendOrders().setLength(1, 6), 5);
    }

    /** UNKNOWN; NOT_POSSIBLE; NONE. */
    private static void checksOfSetUp() {
        String bent = "=5u5 b0";
        answers(bent, "setUp(1, true)", Script.made(bent).setUp(1, true), -1001);
        answers(bent, "setUp(-1, false)", Script.made(bent).setUp(-1, false), -1001);
        answers(bent, "setUp(0, true)", Script.made(bent).setUp(0, true), -1004);
        answers(bent, "setUp(0, false)", Script.made(bent).setUp(0, false), -1004);
        answers("", "setUp(0, true)", new BendOrders().setUp(0, true), -1005);
        answers("", "setUp(0, false)", new BendOrders().setUp(0, false), 0);
    }

    /** BAD_VALUE (which or value); NONE. */
    private static void checksOfSet() {
        answers("", "set(4, 1)", new BendOrders().set(4, 1), -1002);
        answers("", "set(-1, 6)", new BendOrders().set(-1, 6), -1002);
        answers("", "set(4, 99)", new BendOrders().set(4, 99), -1002);
        answers("", "set(0, 13)", new BendOrders().set(0, 13), -1002);
        answers("", "set(0, 6)", new BendOrders().set(0, 6), -1005);
        answers("", "set(0, 12)", new BendOrders().set(0, 12), 6);
    }

    /** UNKNOWN; NOT_POSSIBLE, for each reason but 0; UNKNOWN; NONE. */
    private static void checksOfBendAndFlatten() {
        String[] states = {"=5u5", "=5u5 b0", "=5d5", "=5u5 s2=6", "=2u2u6 b1", "s0=1 s1=0 =1u2d5 b1 L0",
            "s0=1 s1=0 =2u2u2u2 b2 b1"};
        for (int reason = 0; reason <= 6; reason++) {
            BendOrders press = Script.made(states[reason]);
            answers(states[reason], "ofBend(0, 2)", press.ofBend(0, 2), reason);
            int done = press.count(1);
            answers(states[reason], "bend(7)", press.bend(7), -1001);
            answers(states[reason], "bend(-1)", press.bend(-1), -1001);
            answers(states[reason], "bend(0)", press.bend(0), reason == 0 ? done + 1 : -1004);
        }
        for (String state : new String[] {"=5u5", "=5u5 b0", "=5u5 b0 f0"}) {
            BendOrders press = Script.made(state);
            boolean isDone = press.count(1) == 1;
            answers(state, "flatten(1)", press.flatten(1), -1001);
            answers(state, "flatten(-1)", press.flatten(-1), -1001);
            answers(state, "flatten(0)", press.flatten(0), isDone ? 0 : -1005);
        }
    }

    /** BAD_VALUE; NOT_POSSIBLE; NONE. */
    private static void checksOfFollow() {
        String[] states = {"=5u5", "=5u5 s2=6", "=5u5 b0", "=5u5 b0 s2=6"};
        int[] wants = {1, -1004, -1005, -1005};
        for (int i = 0; i < states.length; i++) {
            for (int bends : new int[] {MIN, -1, 0, 8, MAX}) {
                answers(states[i], "follow(" + bends + ")", Script.made(states[i]).follow(bends), -1002);
            }
            answers(states[i], "follow(1)", Script.made(states[i]).follow(1), wants[i]);
            answers(states[i], "follow(7)", Script.made(states[i]).follow(7), wants[i]);
        }
    }

    /** UNKNOWN; BAD_VALUE. */
    private static void checksOfWhatIsTold() {
        BendOrders press = new BendOrders();
        answers("", "ofBend(1, 5)", press.ofBend(1, 5), -1001);
        answers("", "ofBend(-1, -1)", press.ofBend(-1, -1), -1001);
        answers("", "ofBend(0, 5)", press.ofBend(0, 5), -1002);
        answers("", "ofBend(0, -1)", press.ofBend(0, -1), -1002);
        answers("", "ofBend(0, 4)", press.ofBend(0, 4), 2);
        answers("", "end(1, 0, true)", press.end(1, 0, true), -1001);
        answers("", "end(0, 2, true)", press.end(0, 2, true), -1001);
        answers("", "end(1, 2, false)", press.end(1, 2, false), -1001);
        answers("", "end(-1, 0, false)", press.end(-1, 0, false), -1001);
        answers("", "end(0, -1, false)", press.end(0, -1, false), -1001);
        answers("", "end(0, 1, false)", press.end(0, 1, false), 5);
        answers("", "lengthOf(2)", press.lengthOf(2), -1001);
        answers("", "strikers(1)", press.strikers(1), -1001);
        answers("", "count(14)", press.count(14), -1002);
    }

    /** BAD_VALUE; NOT_POSSIBLE; NONE; and UNKNOWN; BAD_VALUE; NOT_POSSIBLE. */
    private static void checksOfOrderAndMustWait() {
        String none = "=4u3u4 l0=9 l1=1";
        answers(none, "orders()", Script.made(none).orders(), 0);
        answers(none, "order(-1)", Script.made(none).order(-1), -1002);
        answers(none, "order(0)", Script.made(none).order(0), -1004);
        answers(none, "order(2)", Script.made(none).order(2), -1004);
        answers(none, "mustWait(0, 2)", Script.made(none).mustWait(0, 2), -1001);
        answers(none, "mustWait(2, 2)", Script.made(none).mustWait(2, 2), -1001);
        answers(none, "mustWait(0, 0)", Script.made(none).mustWait(0, 0), -1002);
        answers(none, "mustWait(0, 1)", Script.made(none).mustWait(0, 1), -1004);
        String bent = "=4u3u4 b0";
        answers(bent, "orders()", Script.made(bent).orders(), 0);
        answers(bent, "mustWait(0, 0)", Script.made(bent).mustWait(0, 0), -1001);
        answers(bent, "mustWait(0, 1)", Script.made(bent).mustWait(0, 1), -1001);
        answers(bent, "mustWait(1, 0)", Script.made(bent).mustWait(1, 0), -1001);
        answers(bent, "mustWait(1, 1)", Script.made(bent).mustWait(1, 1), -1002);
        answers("=4u3u4", "order(-1)", Script.made("=4u3u4").order(-1), -1002);
        answers("=4u3u4", "order(1)", Script.made("=4u3u4").order(1), 0);
        answers("=4u3u4", "order(2)", Script.made("=4u3u4").order(2), -1005);
    }

    private static void checksOfTextsAndHistory() {
        answers(SIXTY, "type('u')", Script.made(SIXTY).type('u'), -1003);
        answers(SIXTY, "takeStrip()", Script.made(SIXTY).takeStrip(), -1103);
        answers("", "clearText()", new BendOrders().clearText(), 0);
        answers("", "undo()", new BendOrders().undo(), -1005);
        answers("", "restore()", new BendOrders().restore(), -1005);
    }

    /** All calls, but those on the text and undo(), keep(), which are neither acts nor told. */
    private static List<Call> calls() {
        List<Call> calls = new ArrayList<>();
        calls.add(new Call("takeStrip()", true, press -> press.takeStrip()));
        calls.add(new Call("layOver()", true, press -> press.layOver()));
        calls.add(new Call("restore()", true, press -> press.restore()));
        calls.add(new Call("orders()", false, press -> press.orders()));
        for (int index : INDEXES) {
            addCallsOf(index, calls);
            for (int length : LENGTHS) {
                String told = "setLength(" + index + ", " + length + ")";
                calls.add(new Call(told, true, press -> press.setLength(index, length)));
            }
            for (int what : new int[] {MIN, -1, 0, 1, 2, 3, 4, 5, MAX}) {
                calls.add(new Call("ofBend(" + index + ", " + what + ")", false, press -> press.ofBend(index, what)));
            }
            for (int other : INDEXES) {
                String pair = index + ", " + other;
                calls.add(new Call("end(" + pair + ", true)", false, press -> press.end(index, other, true)));
                calls.add(new Call("mustWait(" + pair + ")", false, press -> press.mustWait(index, other)));
            }
        }
        for (int which : new int[] {MIN, -1, 0, 1, 2, 3, 4, MAX}) {
            for (int value : SETTINGS) {
                calls.add(new Call("set(" + which + ", " + value + ")", true, press -> press.set(which, value)));
            }
        }
        for (int what = -1; what <= 14; what++) {
            int asked = what;
            calls.add(new Call("count(" + asked + ")", false, press -> press.count(asked)));
        }
        return calls;
    }

    private static void addCallsOf(int index, List<Call> calls) {
        calls.add(new Call("setUp(" + index + ", true)", true, press -> press.setUp(index, true)));
        calls.add(new Call("setUp(" + index + ", false)", true, press -> press.setUp(index, false)));
        calls.add(new Call("bend(" + index + ")", true, press -> press.bend(index)));
        calls.add(new Call("flatten(" + index + ")", true, press -> press.flatten(index)));
        calls.add(new Call("follow(" + index + ")", true, press -> press.follow(index)));
        calls.add(new Call("lengthOf(" + index + ")", false, press -> press.lengthOf(index)));
        calls.add(new Call("strikers(" + index + ")", false, press -> press.strikers(index)));
        calls.add(new Call("order(" + index + ")", false, press -> press.order(index)));
    }

    /** What is told behind a call, and then behind undo() so many times, or behind restore() or takeStrip(). */
    private static List<List<String>> pictures(String state, Call call) {
        List<List<String>> pictures = new ArrayList<>();
        for (int undone = 0; undone <= 4; undone++) {
            BendOrders press = Script.made(state);
            call.asked().applyAsInt(press);
            pictures.add(behindUndo(press, undone));
        }
        pictures.add(behindRestore(state, call));
        BendOrders press = Script.made(state);
        call.asked().applyAsInt(press);
        List<String> taken = new ArrayList<>(List.of("takeStrip()=" + press.takeStrip()));
        taken.addAll(Script.told(press));
        pictures.add(taken);
        return pictures;
    }

    private static List<String> behindUndo(BendOrders press, int times) {
        List<String> told = new ArrayList<>();
        for (int i = 0; i < times; i++) {
            told.add("undo()=" + press.undo());
        }
        told.addAll(Script.told(press));
        return told;
    }

    private static List<String> behindRestore(String state, Call call) {
        BendOrders press = Script.made(state);
        call.asked().applyAsInt(press);
        List<String> told = new ArrayList<>(List.of("restore()=" + press.restore()));
        told.addAll(Script.toldBut(press, "count(12)"));
        return told;
    }

    private static void changesAsItShould(String state) {
        List<List<String>> before = pictures(state, NOTHING);
        int answered = 0;
        int refused = 0;
        for (Call call : calls()) {
            int answer = call.asked().applyAsInt(Script.made(state));
            boolean isRefused = answer <= -1001;
            answered += isRefused ? 0 : 1;
            refused += isRefused ? 1 : 0;
            String what = "'" + state + "': " + call.told() + "=" + answer;
            if (isRefused || !call.act()) {
                due.holds(what + " changes nothing", pictures(state, call).equals(before));
            } else {
                recordsTheStateBefore(state, call, what);
            }
        }
        due.holds("'" + state + "': calls are answered and refused", answered > 30 && refused > 50);
        textCallsChangeTheTextAlone(state, before);
    }

    /** The snapshot stays; undo() brings the state back, and behind it those that were, but the oldest of four. */
    private static void recordsTheStateBefore(String state, Call call, String what) {
        int history = Script.made(state).count(12);
        BendOrders press = Script.made(state);
        call.asked().applyAsInt(press);
        due.is(what + ": count(12)", press.count(12), Math.min(4, history + 1));
        List<String> restored = behindRestore(state, NOTHING);
        // without a snapshot nothing is restored, and what is told behind it is the call's own
        boolean isEmpty = restored.get(0).equals("restore()=-1005");
        List<String> got = behindRestore(state, call);
        boolean isSame = isEmpty ? got.get(0).equals(restored.get(0)) : got.equals(restored);
        due.holds(what + " leaves the snapshot", isSame);
        for (int undone = 0; undone < Math.min(4, history + 1); undone++) {
            press = Script.made(state);
            call.asked().applyAsInt(press);
            due.is(what + ": undo()", press.undo(), Math.min(4, history + 1) - 1);
            BendOrders other = Script.made(state);
            for (int i = 0; i < undone; i++) {
                press.undo();
                other.undo();
            }
            boolean isBack = Script.toldBut(press, "count(12)").equals(Script.toldBut(other, "count(12)"));
            due.holds(what + ": undone " + (undone + 1) + " times it is as it was", isBack);
        }
    }

    /** The calls on the text change count(13) alone, and a refused type() not even that. */
    private static void textCallsChangeTheTextAlone(String state, List<List<String>> before) {
        Call type = new Call("type", false, press -> press.type('x'));
        Call clear = new Call("clearText", false, press -> press.clearText());
        int length = Script.made(state).count(13);
        if (length == 60) {
            due.holds("'" + state + "': type() of a full text changes nothing", pictures(state, type).equals(before));
        }
        for (Call call : List.of(type, clear)) {
            int want = call == clear ? 0 : Math.min(60, length + 1);
            List<List<String>> behind = pictures(state, call);
            for (int i = 0; i < behind.size() - 1; i++) {
                List<String> wanted = new ArrayList<>(before.get(i));
                wanted.replaceAll(each -> each.startsWith("count(13)=") ? "count(13)=" + want : each);
                due.holds("'" + state + "': " + call.told() + ": picture " + i, behind.get(i).equals(wanted));
            }
        }
    }
}
