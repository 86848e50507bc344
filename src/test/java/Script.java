import java.util.ArrayList;
import java.util.List;

/** Objects that are made by a row of calls, and all that can be told of them. */
final class Script {
    private Script() {
    }

    /**
     * Makes an object and does the steps, which are parted by blanks, on it. None of them may be refused, but a setting
     * that is so already: =4u3u4 the strip is taken, s0=12 a setting, l0=7 a length, v0 a bend is turned up or down,
     * o laid over, b1 a bend is done (and the strip laid over ahead of it where that is needed), f1 flattened,
     * n2 followed, k kept, r restored, z undone, txyz typed, c the text emptied, L0 or L1 laid so.
     */
    static BendOrders made(String steps) {
        BendOrders press = new BendOrders();
        for (String step : steps.split(" ")) {
            if (!step.isEmpty()) {
                int answer = done(press, step);
                boolean isSoAlready = step.charAt(0) == 's' && answer == -1005;
                if (answer <= -1001 && !isSoAlready) {
                    throw new IllegalStateException(step + " of '" + steps + "' answered " + answer);
                }
            }
        }
        return press;
    }

    private static int done(BendOrders press, String step) {
        String rest = step.substring(1);
        switch (step.charAt(0)) {
            case '=':
                Due.type(press, rest);
                return press.takeStrip();
            case 's':
                return press.set(number(rest, 0), number(rest, 1));
            case 'l':
                return press.setLength(number(rest, 0), number(rest, 1));
            case 'v':
                return press.setUp(number(rest, 0), press.ofBend(number(rest, 0), 0) == 0);
            case 'o':
                return press.layOver();
            case 'b':
                return bent(press, number(rest, 0));
            case 'f':
                return press.flatten(number(rest, 0));
            case 'n':
                return press.follow(number(rest, 0));
            case 'k':
                return press.keep();
            case 'r':
                return press.restore();
            case 'z':
                return press.undo();
            case 't':
                return typed(press, rest);
            case 'c':
                return press.clearText();
            case 'L':
                return press.count(2) == number(rest, 0) ? 0 : press.layOver();
            default:
                throw new IllegalStateException("no step: " + step);
        }
    }

    private static int number(String rest, int place) {
        return Integer.parseInt(rest.split("=")[place]);
    }

    private static int bent(BendOrders press, int bend) {
        if (press.ofBend(bend, 2) == 2) {
            press.layOver();
        }
        return press.bend(bend);
    }

    private static int typed(BendOrders press, String text) {
        int length = 0;
        for (int i = 0; i < text.length(); i++) {
            length = press.type(text.charAt(i));
        }
        return length;
    }

    /** All that is told of an object as it is now; at most 234 calls, of which it bears 512. */
    static List<String> told(BendOrders press) {
        List<String> told = new ArrayList<>();
        for (int what = 0; what <= 13; what++) {
            told.add("count(" + what + ")=" + press.count(what));
        }
        int bends = press.count(0);
        for (int bend = 0; bend < bends; bend++) {
            for (int what = 0; what <= 4; what++) {
                told.add("ofBend(" + bend + ", " + what + ")=" + press.ofBend(bend, what));
            }
            for (int flange = 0; flange <= bends; flange++) {
                told.add("end(" + bend + ", " + flange + ", false)=" + press.end(bend, flange, false));
                told.add("end(" + bend + ", " + flange + ", true)=" + press.end(bend, flange, true));
            }
            for (int other = 0; other < bends; other++) {
                told.add("mustWait(" + bend + ", " + other + ")=" + press.mustWait(bend, other));
            }
            told.add("strikers(" + bend + ")=" + press.strikers(bend));
            told.add("order(" + bend + ")=" + press.order(bend));
        }
        for (int flange = 0; flange <= bends; flange++) {
            told.add("lengthOf(" + flange + ")=" + press.lengthOf(flange));
        }
        told.add("orders()=" + press.orders());
        return told;
    }

    /** What is told without the answers of one call, as that of how long the history is. */
    static List<String> toldBut(BendOrders press, String call) {
        List<String> told = told(press);
        told.removeIf(each -> each.startsWith(call + "="));
        return told;
    }
}
