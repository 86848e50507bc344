/** The boundaries of the shape on the grid (Terms: strips and shapes) and of the promises 16 and 17. */
public final class BoundShapeTest {
    private static final Due due = new Due("BoundShapeTest");
    private static final String LOW = "s0=1 s1=0 ";
    private static final String[] MADE = {"=5u5", "=1d9 o", "=4u3u4 b1", "=5u3d3u5 b0 b1", "=5u3d3u5 n7", "=2u2u6 b1",
        LOW + "=1u2u3u4u5u3 b4 b3 b2 b1", LOW + "=3u5u4u3u2u1 b3 b2 b1 b0 o", LOW + "=2u3u5u5u6 b0 b1 b2 b3",
        LOW + "=8u9d5u8d9u5u9u1 n7", "=9u9u9u9u9u9u9u9 o"};

    public static void main(String[] arguments) {
        theFlangesAtTheToolLieFlat();
        upTurnsOnTheRight();
        downTurnsOnTheRight();
        upTurnsOnTheLeft();
        downTurnsOnTheLeft();
        theStripGoesStraightOnWhereNoBendIsDone();
        aBendIsLaidAsNotDone();
        laidOverUpAndDownAreTurnedAndLeftAndRightStay();
        theFarthestEnds();
        theEndIsTheOneFartherFromTheTool();
        lengthsAreToldOfEachFlange();
        due.close();
    }

    private static void ends(String call, BendOrders press, int bend, int[] xs, int[] ys) {
        for (int flange = 0; flange < xs.length; flange++) {
            String told = call + ": end(" + bend + ", " + flange + ", ";
            due.is(told + "false)", press.end(bend, flange, false), xs[flange]);
            due.is(told + "true)", press.end(bend, flange, true), ys[flange]);
        }
    }

    private static int[] negative(int[] numbers) {
        int[] turned = new int[numbers.length];
        for (int i = 0; i < numbers.length; i++) {
            turned[i] = -numbers[i];
        }
        return turned;
    }

    /** "the flange b goes from there to the left, the flange b + 1 from there to the right", of each bend there is. */
    private static void theFlangesAtTheToolLieFlat() {
        for (String steps : MADE) {
            BendOrders press = Script.made(steps);
            for (int bend = 0; bend < press.count(0); bend++) {
                String call = steps + ": end(" + bend + ", ";
                due.is(call + bend + ", false)", press.end(bend, bend, false), -press.lengthOf(bend));
                due.is(call + bend + ", true)", press.end(bend, bend, true), 0);
                due.is(call + (bend + 1) + ", false)", press.end(bend, bend + 1, false), press.lengthOf(bend + 1));
                due.is(call + (bend + 1) + ", true)", press.end(bend, bend + 1, true), 0);
            }
        }
    }

    /** "turns from right to up, from up to left, from left to down, from down to right". */
    private static void upTurnsOnTheRight() {
        BendOrders press = Script.made(LOW + "=1u2u3u4u5u3 b4 b3 b2 b1");
        int[] xs = {-1, 2, 2, -2, -2, 1};
        int[] ys = {0, 0, 3, 3, -2, -2};
        ends("up on the right", press, 0, xs, ys);
        press.layOver();
        ends("up on the right, laid over", press, 0, xs, negative(ys));
    }

    /** "one that is down the other way around": from right to down, from down to left, from left to up, to right. */
    private static void downTurnsOnTheRight() {
        BendOrders press = Script.made(LOW + "=1u2d3d4d5d3 b4 b3 b2 b1 L0");
        int[] xs = {-1, 2, 2, -2, -2, 1};
        int[] ys = {0, 0, -3, -3, 2, 2};
        ends("down on the right", press, 0, xs, ys);
        press.layOver();
        ends("down on the right, laid over", press, 0, xs, negative(ys));
    }

    /** "turns from left to up, from up to right, from right to down, from down to left". */
    private static void upTurnsOnTheLeft() {
        BendOrders press = Script.made(LOW + "=3u5u4u3u2u1 b3 b2 b1 b0");
        int[] xs = {-1, 2, 2, -2, -2, 1};
        int[] ys = {-2, -2, 3, 3, 0, 0};
        ends("up on the left", press, 4, xs, ys);
        press.layOver();
        ends("up on the left, laid over", press, 4, xs, negative(ys));
    }

    /** "one that is down the other way around": from left to down, from down to right, from right to up, to left. */
    private static void downTurnsOnTheLeft() {
        BendOrders press = Script.made(LOW + "=3d5d4d3d2u1 b3 b2 b1 b0 L0");
        int[] xs = {-1, 2, 2, -2, -2, 1};
        int[] ys = {2, 2, -3, -3, 0, 0};
        ends("down on the left", press, 4, xs, ys);
        press.layOver();
        ends("down on the left, laid over", press, 4, xs, negative(ys));
    }

    /** Each bend of a staircase alone is done, and then two of them. */
    private static void theStripGoesStraightOnWhereNoBendIsDone() {
        String strip = LOW + "=4u3d2u1u6";
        ends("none is done", Script.made(strip), 0, new int[] {-4, 3, 5, 6, 12}, new int[] {0, 0, 0, 0, 0});
        ends("none is done", Script.made(strip), 3, new int[] {-10, -6, -3, -1, 6}, new int[] {0, 0, 0, 0, 0});
        ends("1 is done", Script.made(strip + " b1 L0"), 0, new int[] {-4, 3, 3, 3, 3}, new int[] {0, 0, -2, -3, -9});
        ends("2 is done", Script.made(strip + " b2"), 0, new int[] {-4, 3, 5, 5, 5}, new int[] {0, 0, 0, 1, 7});
        ends("3 is done", Script.made(strip + " b3"), 0, new int[] {-4, 3, 5, 6, 6}, new int[] {0, 0, 0, 0, 6});
        ends("1 and 3 are done", Script.made(strip + " b1 b3"), 0, new int[] {-4, 3, 3, 3, 9},
            new int[] {0, 0, -2, -3, -3});
        ends("0 is done", Script.made(strip + " b0"), 3, new int[] {-6, -6, -3, -1, 6}, new int[] {4, 0, 0, 0, 0});
        ends("1 is done", Script.made(strip + " b1 L0"), 3, new int[] {-3, -3, -3, -1, 6}, new int[] {-7, -3, 0, 0, 0});
        ends("2 is done", Script.made(strip + " b2"), 3, new int[] {-1, -1, -1, -1, 6}, new int[] {9, 5, 2, 0, 0});
        ends("0 and 1 are done", Script.made(strip + " b0 b1 L0"), 3, new int[] {-7, -3, -3, -1, 6},
            new int[] {-3, -3, 0, 0, 0});
    }

    /** "whether b is done or not, it is laid as not done": all that is told with b at the tool is the same. */
    private static void aBendIsLaidAsNotDone() {
        for (String steps : new String[] {"=5u5", "=9u9u9 b0", "=5u3d3u5 b0 b1", LOW + "=2u3u5u5u6 b0 b1 b2"}) {
            BendOrders flat = Script.made(steps);
            int bend = flat.count(0) - 1;
            while (bend > 0 && flat.ofBend(bend, 1) == 1) {
                bend--;
            }
            BendOrders bent = Script.made(steps + " b" + bend);
            if (bent.count(2) != flat.count(2)) {
                bent.layOver();
            }
            due.is(steps + ": the bend " + bend + " is not done", flat.ofBend(bend, 1), 0);
            due.is(steps + ": the bend " + bend + " is done", bent.ofBend(bend, 1), 1);
            for (int flange = 0; flange <= flat.count(0); flange++) {
                String call = steps + ", done: end(" + bend + ", " + flange + ", ";
                due.is(call + "false)", bent.end(bend, flange, false), flat.end(bend, flange, false));
                due.is(call + "true)", bent.end(bend, flange, true), flat.end(bend, flange, true));
            }
            due.is(steps + ", done: strikers", bent.strikers(bend), flat.strikers(bend));
        }
    }

    private static void laidOverUpAndDownAreTurnedAndLeftAndRightStay() {
        for (String steps : MADE) {
            BendOrders press = Script.made(steps);
            BendOrders over = Script.made(steps + " o");
            for (int bend = 0; bend < press.count(0); bend++) {
                for (int flange = 0; flange <= press.count(0); flange++) {
                    String call = steps + " o: end(" + bend + ", " + flange + ", ";
                    due.is(call + "false)", over.end(bend, flange, false), press.end(bend, flange, false));
                    due.is(call + "true)", over.end(bend, flange, true), -press.end(bend, flange, true));
                }
            }
        }
    }

    /** Seven bends and flanges of 9: the ends lie as far away as any can. */
    private static void theFarthestEnds() {
        BendOrders press = Script.made("=9u9u9u9u9u9u9u9");
        for (int bend = 0; bend < 7; bend++) {
            for (int flange = 0; flange < 8; flange++) {
                int want = flange <= bend ? 9 * (flange - bend - 1) : 9 * (flange - bend);
                due.is("end(" + bend + ", " + flange + ", false)", press.end(bend, flange, false), want);
                due.is("end(" + bend + ", " + flange + ", true)", press.end(bend, flange, true), 0);
            }
        }
        press = Script.made("=9u9d9d9d9d9d9d9 b1 L0");
        due.is("the lowest end: x", press.end(0, 7, false), 9);
        due.is("the lowest end: y", press.end(0, 7, true), -54);
        press = Script.made("=9u9u9u9u9u9u9u9 b5");
        due.is("the highest end: x", press.end(6, 0, false), -9);
        due.is("the highest end: y", press.end(6, 0, true), 54);
    }

    /** Of a flange on the left its end at the bend before, on the right its end at the bend behind. */
    private static void theEndIsTheOneFartherFromTheTool() {
        BendOrders press = Script.made("=1u2u3u4");
        ends("flat", press, 1, new int[] {-3, -2, 3, 7}, new int[] {0, 0, 0, 0});
        ends("flat", press, 0, new int[] {-1, 2, 5, 9}, new int[] {0, 0, 0, 0});
        ends("flat", press, 2, new int[] {-6, -5, -3, 4}, new int[] {0, 0, 0, 0});
    }

    private static void lengthsAreToldOfEachFlange() {
        BendOrders press = Script.made("=9u8d7u6d5u4d3u2 n2");
        for (int flange = 0; flange <= 7; flange++) {
            due.is("lengthOf(" + flange + ")", press.lengthOf(flange), 9 - flange);
        }
        due.is("lengthOf(-1)", press.lengthOf(-1), -1001);
        due.is("lengthOf(8)", press.lengthOf(8), -1001);
    }
}
