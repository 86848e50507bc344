import java.util.ArrayList;
import java.util.List;

/** The boundaries of bending and of orders (Terms: orders) and of the promises 6 to 9 and 19 to 22. */
public final class BoundOrdersTest {
    private static final Due due = new Due("BoundOrdersTest");
    private static final String LOW = "s0=1 s1=0 ";
    private static final String ALL_WAYS = LOW + "=8u9d5u8d9u5u9u1";
    private static final String[] MADE = {"=5u5", "=5d5", "=9u9u9", "=9d9d9", "=4u3u4", "=4d3d4", "=9u9d9u9", "=5u3d3u5",
        "=4u3u9u9", "=5u4d3u4d5", "=9u3d3u5u9", "=9u9u9u9", "=9u9u9u8", "=9u4u3u4", LOW + "=2u2u2u2", LOW + "=2u2u2u1",
        LOW + "=1u2u3u4u5u3", LOW + "=1u2d1u2d1u2", "=3u4d2 s2=3", "=3u4d2 s2=2", "=5d5 s2=6", "=4u3u4 s2=7"};

    public static void main(String[] arguments) {
        ordersAreAllRowsThatCanBeDone();
        ordersFromEachSetOfDoneBends();
        ordersAreOfTheStripAsItIsNow();
        ordersAreOfTheToolAsItIsNow();
        thereAreAtMost5040();
        thereIsOneIfAllAreDone();
        thereIsNone();
        placesOfTheFirstOrder();
        followTakesOneTo7();
        followLaysOverAndIsOneAct();
        followBehindBendsAndFlattenings();
        turningsBeginWithHowItLies();
        waitingIsOfEachOrderThereIs();
        bendTellsHowManyAreDone();
        flattenTellsHowManyAreDone();
        layOverTellsHowItLies();
        bendingsSoFar();
        whatCanBeDoneNow();
        countsAreOf0To13();
        ofBendIsOf0To4();
        due.close();
    }

    /** All rows of the bends that are not done, tried by doing them, by rising numbers at each place. */
    private static List<List<Integer>> rows(String steps) {
        List<List<Integer>> rows = new ArrayList<>();
        tryRows(steps, new ArrayList<>(), rows);
        return rows;
    }

    private static void tryRows(String steps, List<Integer> row, List<List<Integer>> rows) {
        BendOrders press = Script.made(steps);
        for (int bend : row) {
            layUp(press, bend);
            press.bend(bend);
        }
        if (press.count(1) == press.count(0)) {
            rows.add(new ArrayList<>(row));
            return;
        }
        for (int bend = 0; bend < press.count(0); bend++) {
            layUp(press, bend);
            if (press.bend(bend) >= 0) {
                press.undo();
                row.add(bend);
                tryRows(steps, row, rows);
                row.remove(row.size() - 1);
            }
        }
    }

    private static boolean layUp(BendOrders press, int bend) {
        boolean up = (press.ofBend(bend, 0) == 1) == (press.count(2) == 0);
        if (!up) {
            press.layOver();
        }
        return !up;
    }

    private static int turnings(String steps, List<Integer> row) {
        BendOrders press = Script.made(steps);
        int turned = 0;
        for (int bend : row) {
            turned += layUp(press, bend) ? 1 : 0;
        }
        return turned;
    }

    private static int isBehindInAll(List<List<Integer>> rows, int bend, int other) {
        for (List<Integer> row : rows) {
            if (row.indexOf(bend) < row.indexOf(other)) {
                return 0;
            }
        }
        return 1;
    }

    private static void tellsRows(String steps) {
        BendOrders press = Script.made(steps);
        List<List<Integer>> rows = rows(steps);
        boolean any = !rows.isEmpty();
        due.is(steps + ": orders()", press.orders(), rows.size());
        due.is(steps + ": count(3)", press.count(3), any ? 1 : 0);
        due.is(steps + ": count(5)", press.count(5), any ? turnings(steps, rows.get(0)) : -1005);
        int open = press.count(0) - press.count(1);
        for (int place = 0; place <= open; place++) {
            int want = !any ? -1004 : place == open ? -1005 : rows.get(0).get(place);
            due.is(steps + ": order(" + place + ")", press.order(place), want);
        }
        for (int bend = 0; bend < press.count(0); bend++) {
            for (int other = 0; other < press.count(0); other++) {
                boolean done = press.ofBend(bend, 1) == 1 || press.ofBend(other, 1) == 1;
                int want = done ? -1001 : bend == other ? -1002 : !any ? -1004 : isBehindInAll(rows, bend, other);
                due.is(steps + ": mustWait(" + bend + ", " + other + ")", press.mustWait(bend, other), want);
            }
        }
    }

    private static void ordersAreAllRowsThatCanBeDone() {
        for (String steps : MADE) {
            tellsRows(steps);
            tellsRows(steps + " o");
        }
    }

    /** "An order of the bends that are not done", with each one done that can be, and those behind it. */
    private static void ordersFromEachSetOfDoneBends() {
        for (String steps : MADE) {
            BendOrders press = Script.made(steps);
            for (int bend = 0; bend < press.count(0); bend++) {
                if (press.ofBend(bend, 2) != 0 && press.ofBend(bend, 4) != 0) {
                    continue;
                }
                tellsRows(steps + " b" + bend);
                BendOrders bent = Script.made(steps + " b" + bend);
                for (int next = 0; next < press.count(0); next++) {
                    if (bent.ofBend(next, 2) == 0 || bent.ofBend(next, 4) == 0) {
                        tellsRows(steps + " b" + bend + " b" + next);
                    }
                }
            }
        }
    }

    private static void asksOrders(BendOrders press) {
        press.orders();
        press.order(0);
        press.count(5);
    }

    private static void tellsTheSame(String what, BendOrders press, BendOrders fresh) {
        due.holds(what, Script.toldBut(press, "count(12)").equals(Script.toldBut(fresh, "count(12)")));
    }

    /** What was asked of another strip, or of the strip as it was, is not told of the one that is there now. */
    private static void ordersAreOfTheStripAsItIsNow() {
        // beginnings of one another, the same bends with other lengths, the same lengths with other bends
        String[] strips = {"9u9", "9d9", "9u9d9", "9u9u9", "9u9d9u9", "9u9u9u9", "8u8u8u1", "8u8u8u8", "4u3u4", "4u3u9u9",
            "4u3d4", "4d3u4", "9u3u4", "9d9d9d9"};
        for (String strip : strips) {
            for (String other : strips) {
                BendOrders press = Script.made("=" + other);
                asksOrders(press);
                Due.type(press, strip);
                press.takeStrip();
                tellsTheSame(strip + " behind " + other, press, Script.made("=" + strip));
                press.undo();
                Due.type(press, other);
                tellsTheSame(other + " behind undo()", press, Script.made("=" + other));
            }
        }
        for (String strip : new String[] {"4u3u9u9", "9u9u9u9", "5u5"}) {
            for (int place = 0; place < strip.length(); place++) {
                changesOnePlace(strip, place);
            }
        }
    }

    private static void changesOnePlace(String strip, int place) {
        for (char sign : (place % 2 == 0 ? "123456789" : "ud").toCharArray()) {
            BendOrders press = Script.made("=" + strip + " k");
            asksOrders(press);
            StringBuilder changed = new StringBuilder(strip);
            changed.setCharAt(place, sign);
            if (place % 2 == 0) {
                press.setLength(place / 2, sign - '0');
            } else {
                press.setUp(place / 2, sign == 'u');
            }
            tellsTheSame(strip + " changed to " + changed, press, Script.made("=" + changed));
            press.restore();
            tellsTheSame(strip + " restored behind " + changed, press, Script.made("=" + strip));
        }
    }

    private static void ordersAreOfTheToolAsItIsNow() {
        int[] least = {1, 0, 0, 0};
        int[] most = {12, 3, 9, 9};
        for (String strip : new String[] {"4u3u4", "5u5", "9u9u9", "5u2u2u2"}) {
            for (int which = 0; which < 4; which++) {
                for (int value = least[which]; value <= most[which]; value++) {
                    String set = "s" + which + "=" + value;
                    BendOrders press = Script.made("=" + strip + " k");
                    asksOrders(press);
                    press.set(which, value);
                    tellsTheSame(strip + " with " + set, press, Script.made("=" + strip + " " + set));
                    press.restore();
                    tellsTheSame(strip + " restored behind " + set, press, Script.made("=" + strip));
                }
            }
        }
    }

    /** Seven bends in all orders, and no bend that waits. */
    private static void thereAreAtMost5040() {
        int[] counts = {5040, 720, 120, 24, 6, 2, 1, 1};
        BendOrders press = Script.made(ALL_WAYS);
        for (int done = 0; done <= 7; done++) {
            due.is("seven bends, " + done + " are done: orders()", press.orders(), counts[done]);
            due.is("seven bends, " + done + " are done: order(0)", press.order(0), done == 7 ? -1005 : done);
            for (int bend = done; bend < 7; bend++) {
                for (int other = done; other < 7; other++) {
                    int want = bend == other ? -1002 : 0;
                    due.is("none waits: mustWait(" + bend + ", " + other + ")", press.mustWait(bend, other), want);
                }
            }
            press.follow(1);
        }
        tellsRows(ALL_WAYS + " b6 b5");
    }

    /** "1 if all are done: the empty one", though nothing could be done any more. */
    private static void thereIsOneIfAllAreDone() {
        for (String steps : new String[] {"=5u5 n1", "=9u9d9u9 n7", "=5u5 n1 s2=9", "=5u5 n1 s2=9 o", ALL_WAYS + " n7"}) {
            BendOrders press = Script.made(steps);
            due.is(steps + ": orders()", press.orders(), 1);
            due.is(steps + ": count(3)", press.count(3), 1);
            due.is(steps + ": count(4)", press.count(4), 0);
            due.is(steps + ": count(5)", press.count(5), 0);
            due.is(steps + ": order(0)", press.order(0), -1005);
            due.is(steps + ": order(-1)", press.order(-1), -1002);
            for (int bends = 0; bends <= 8; bends++) {
                due.is(steps + ": follow(" + bends + ")", press.follow(bends), bends == 0 || bends == 8 ? -1002 : -1005);
            }
            due.is(steps + ": mustWait(0, 0)", press.mustWait(0, 0), -1001);
        }
    }

    private static void thereIsNone() {
        for (String steps : new String[] {"=5u5 s2=6", "=9u9u9u9", "=4u3u4 b0", "=4u3u4 b0 o", LOW + "=2u2u2u2"}) {
            BendOrders press = Script.made(steps);
            int history = press.count(12);
            int done = press.count(1);
            due.is(steps + ": orders()", press.orders(), 0);
            due.is(steps + ": count(3)", press.count(3), 0);
            due.is(steps + ": count(5)", press.count(5), -1005);
            for (int place = -2; place <= 8; place++) {
                due.is(steps + ": order(" + place + ")", press.order(place), place < 0 ? -1002 : -1004);
            }
            for (int bends = -1; bends <= 9; bends++) {
                int want = bends < 1 || bends > 7 ? -1002 : -1004;
                due.is(steps + ": follow(" + bends + ")", press.follow(bends), want);
            }
            due.is(steps + ": its history", press.count(12), history);
            due.is(steps + ": done", press.count(1), done);
        }
    }

    private static void placesOfTheFirstOrder() {
        for (int bends = 1; bends <= 7; bends++) {
            String strip = "9u9d9u9d9u9d9u9".substring(0, 2 * bends + 1);
            BendOrders press = Script.made("=" + strip);
            for (int done = 0; done <= bends; done++) {
                for (int place = -1; place <= 8; place++) {
                    int want = place < 0 ? -1002 : place < bends - done ? done + place : -1005;
                    due.is(strip + ", " + done + " done: order(" + place + ")", press.order(place), want);
                }
                press.follow(1);
            }
            due.is(strip + ": order(MIN)", press.order(Integer.MIN_VALUE), -1002);
            due.is(strip + ": order(MAX)", press.order(Integer.MAX_VALUE), -1005);
        }
    }

    /** "1 to 7: so many, or as many as are not done": from each number of done bends on. */
    private static void followTakesOneTo7() {
        for (int bends = 1; bends <= 7; bends++) {
            String strip = "9u9d9u9d9u9d9u9".substring(0, 2 * bends + 1);
            for (int done = 0; done <= bends; done++) {
                for (int asked = -1; asked <= 9; asked++) {
                    BendOrders press = Script.made("=" + strip + (done == 0 ? "" : " n" + done));
                    int then = Math.min(bends, done + asked);
                    int want = asked < 1 || asked > 7 ? -1002 : done == bends ? -1005 : then;
                    String call = strip + ", " + done + " done: follow(" + asked + ")";
                    due.is(call, press.follow(asked), want);
                    int bent = want < 0 ? done : then;
                    due.is(call + ": count(1)", press.count(1), bent);
                    due.is(call + ": count(7)", press.count(7), bent);
                    due.is(call + ": count(2)", press.count(2), bent > 0 && bent % 2 == 0 ? 1 : 0);
                    for (int bend = 0; bend < bends; bend++) {
                        due.is(call + ": ofBend(" + bend + ", 1)", press.ofBend(bend, 1), bend < bent ? 1 : 0);
                    }
                }
            }
        }
        for (int asked : new int[] {Integer.MIN_VALUE, Integer.MAX_VALUE}) {
            due.is("follow(" + asked + ")", new BendOrders().follow(asked), -1002);
        }
    }

    private static void followLaysOverAndIsOneAct() {
        BendOrders press = Script.made("=9d9u9d9u9d9u9d9");
        due.is("follow(7)", press.follow(7), 7);
        due.is("it lies as the last one needs it", press.count(2), 1);
        due.is("its history", press.count(12), 2);
        due.is("its bendings", press.count(7), 7);
        due.is("undo()", press.undo(), 1);
        due.is("none is done", press.count(1), 0);
        due.is("it is not laid over", press.count(2), 0);
        due.is("no bendings", press.count(7), 0);
        press = Script.made("=9u9d9 o");
        due.is("follow(1)", press.follow(1), 1);
        due.is("laid back for it, and not over for the next one", press.count(2), 0);
        press = Script.made("=9d9 o");
        due.is("follow(1) as it lies", press.follow(1), 1);
        due.is("it was not laid back", press.count(2), 1);
    }

    private static void followBehindBendsAndFlattenings() {
        BendOrders press = Script.made("=9u9d9u9 b1 L0");
        due.is("behind bend(1): follow(1)", press.follow(1), 2);
        due.is("it was the bend 0", press.ofBend(0, 1), 1);
        due.is("behind it: follow(1)", press.follow(1), 3);
        due.is("flatten(1)", press.flatten(1), 2);
        due.is("follow(7)", press.follow(7), 3);
        due.is("it was the bend 1", press.ofBend(1, 1), 1);
        due.is("its bendings", press.count(7), 4);
    }

    /** "beginning with how it lies now": from no turning to seven. */
    private static void turningsBeginWithHowItLies() {
        String[] strips = {"9u9", "9d9", "9u9d9", "9d9u9", "9u9d9u9", "9u9u9", "9u9d9u9d9u9d9u9", "9d9u9d9u9d9u9d9"};
        int[] flat = {0, 1, 1, 2, 2, 0, 6, 7};
        int[] over = {1, 0, 2, 1, 3, 1, 7, 6};
        for (int i = 0; i < strips.length; i++) {
            BendOrders press = Script.made("=" + strips[i]);
            due.is(strips[i] + ": count(5)", press.count(5), flat[i]);
            press.layOver();
            due.is(strips[i] + ", laid over: count(5)", press.count(5), over[i]);
            press.follow(7);
            due.is(strips[i] + ", all done: count(5)", press.count(5), 0);
        }
    }

    private static void waitingIsOfEachOrderThereIs() {
        BendOrders press = Script.made("=5u4d3u4d5");
        due.is("twelve orders: orders()", press.orders(), 12);
        for (int bend = 0; bend < 4; bend++) {
            for (int other = 0; other < 4; other++) {
                int want = bend == other ? -1002 : bend == 2 && other == 1 ? 1 : 0;
                due.is("twelve orders: mustWait(" + bend + ", " + other + ")", press.mustWait(bend, other), want);
            }
        }
        int[] bends = {Integer.MIN_VALUE, -1, 4, 7, Integer.MAX_VALUE};
        for (int bend : bends) {
            due.is("mustWait(" + bend + ", 0)", press.mustWait(bend, 0), -1001);
            due.is("mustWait(0, " + bend + ")", press.mustWait(0, bend), -1001);
            due.is("mustWait(" + bend + ", " + bend + ")", press.mustWait(bend, bend), -1001);
        }
        press.bend(0);
        for (int other = 0; other < 4; other++) {
            due.is("0 is done: mustWait(0, " + other + ")", press.mustWait(0, other), -1001);
            due.is("0 is done: mustWait(" + other + ", 0)", press.mustWait(other, 0), -1001);
        }
        due.is("0 is done: mustWait(2, 1)", press.mustWait(2, 1), 1);
        due.is("0 is done: mustWait(1, 2)", press.mustWait(1, 2), 0);
    }

    private static void bendTellsHowManyAreDone() {
        BendOrders press = Script.made(ALL_WAYS);
        for (int done = 1; done <= 7; done++) {
            int bend = 7 - done;
            layUp(press, bend);
            int bendings = press.count(7);
            due.is("bend(" + bend + ")", press.bend(bend), done);
            due.is("bend(" + bend + ") again", press.bend(bend), -1004);
            due.is("its bendings", press.count(7), bendings + 1);
        }
        due.is("bend(-1)", press.bend(-1), -1001);
        due.is("bend(7)", press.bend(7), -1001);
    }

    private static void flattenTellsHowManyAreDone() {
        BendOrders press = Script.made(ALL_WAYS + " n7");
        for (int bend = 0; bend < 7; bend++) {
            due.is("flatten(" + bend + ")", press.flatten(bend), 6 - bend);
            int history = press.count(12);
            due.is("flatten(" + bend + ") again", press.flatten(bend), -1005);
            due.is("its history", press.count(12), history);
        }
        due.is("its bendings stay", press.count(7), 7);
        due.is("flatten(-1)", press.flatten(-1), -1001);
        due.is("flatten(7)", press.flatten(7), -1001);
    }

    private static void layOverTellsHowItLies() {
        BendOrders press = new BendOrders();
        for (int time = 1; time <= 9; time++) {
            due.is("layOver() number " + time, press.layOver(), time % 2);
            due.is("count(2)", press.count(2), time % 2);
            due.is("count(12)", press.count(12), Math.min(4, time));
        }
    }

    /** "flatten() and takeStrip() take none of them away"; of a state, so that undo() and restore() do. */
    private static void bendingsSoFar() {
        BendOrders press = Script.made("=9u9u9 k b0 b1");
        due.is("two", press.count(7), 2);
        press.flatten(0);
        press.flatten(1);
        due.is("flattened", press.count(7), 2);
        press.takeStrip();
        due.is("a new strip", press.count(7), 2);
        press.follow(2);
        due.is("followed", press.count(7), 4);
        press.undo();
        due.is("undone", press.count(7), 2);
        press.bend(2);
        due.is("refused", press.count(7), 2);
        press.restore();
        due.is("restored", press.count(7), 0);
        press.undo();
        due.is("undone again", press.count(7), 2);
    }

    private static void whatCanBeDoneNow() {
        due.is("all of seven", Script.made("=9u9u9u9u9u9u9u9").count(4), 127);
        due.is("none of seven, laid over", Script.made("=9u9u9u9u9u9u9u9 o").count(4), 0);
        due.is("all of seven, laid over", Script.made("=9d9d9d9d9d9d9d9 o").count(4), 127);
        due.is("every other one", Script.made("=9u9d9u9d9u9d9u9").count(4), 85);
        due.is("the others", Script.made("=9u9d9u9d9u9d9u9 o").count(4), 42);
        due.is("without the one that is done", Script.made("=9u9u9 b0").count(4), 2);
        due.is("without the one that is not held", Script.made("=9u9u1 s2=2").count(4), 1);
        due.is("with what ends no order", Script.made("=4u3u4").count(4), 3);
        due.is("without what strikes", Script.made("=4u3u4 b0").count(4), 0);
        // a bend behind the last one would be held by nothing, lie flat and so be up when it is laid over
        for (int bends = 1; bends <= 7; bends++) {
            String strip = "9d9d9d9d9d9d9d9".substring(0, 2 * bends + 1);
            due.is(strip + ", held by nothing", Script.made("=" + strip + " s2=0 o").count(4), (1 << bends) - 1);
            due.is(strip + " behind a longer one", Script.made("=9d9d9d9d9d9d9d9 =" + strip + " s2=0 o").count(4),
                (1 << bends) - 1);
        }
    }

    private static void countsAreOf0To13() {
        int[] wants = {3, 2, 0, 1, 4, 0, 29, 2, 12, 3, 2, 9, 4, 7};
        BendOrders press = Script.made("=9u6d9u5 s0=12 s1=3 s2=2 s3=9 b1 b0");
        for (int what = 0; what <= 13; what++) {
            due.is("count(" + what + ")", press.count(what), wants[what]);
        }
        for (int what : new int[] {Integer.MIN_VALUE, -2, -1, 14, 15, 16, 269, Integer.MAX_VALUE}) {
            due.is("count(" + what + ")", press.count(what), -1002);
        }
        due.is("the shortest strip: count(6)", Script.made("=1u1").count(6), 2);
        due.is("the longest strip: count(6)", Script.made("=9u9u9u9u9u9u9u9").count(6), 72);
    }

    private static void ofBendIsOf0To4() {
        BendOrders press = Script.made("=9u6d9 b0 L1");
        int[] first = {1, 1, 1, 90, 1};
        int[] second = {0, 0, 0, 90, 2};
        for (int what = 0; what <= 4; what++) {
            due.is("ofBend(0, " + what + ")", press.ofBend(0, what), first[what]);
            due.is("ofBend(1, " + what + ")", press.ofBend(1, what), second[what]);
        }
        for (int what : new int[] {Integer.MIN_VALUE, -2, -1, 5, 6, 256, Integer.MAX_VALUE}) {
            due.is("ofBend(0, " + what + ")", press.ofBend(0, what), -1002);
            due.is("ofBend(1, " + what + ")", press.ofBend(1, what), -1002);
            due.is("ofBend(2, " + what + ")", press.ofBend(2, what), -1001);
            due.is("ofBend(-1, " + what + ")", press.ofBend(-1, what), -1001);
        }
    }
}
