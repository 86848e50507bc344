import java.util.ArrayDeque;
import java.util.Deque;

/** Long runs of calls, the same in each run of the test, answered as the Reference answers. */
public final class ReferenceTest {
    private static final int RUNS = 2500;
    private static final int CALLS = 512;
    private static final int MOST_TOLD = 5;

    private final Due due;
    private final int[] asked;
    private long seed;
    private BendOrders press;
    private Reference reference;
    private final Deque<String> calls = new ArrayDeque<>();

    private ReferenceTest(Due due, int[] asked, long seed) {
        this.due = due;
        this.asked = asked;
        this.seed = seed;
    }

    public static void main(String[] arguments) {
        Due due = new Due("ReferenceTest");
        int[] asked = new int[8];
        longestStrips(due);
        for (int run = 0; run < RUNS && due.wrong() < MOST_TOLD; run++) {
            new ReferenceTest(due, asked, 7919L * run + 17).run(run);
        }
        // runs that never meet a reason, an order or a wait would show nothing of it
        for (int reason = 0; reason <= 6; reason++) {
            due.holds("the runs meet the reason " + reason, asked[reason] > 100);
        }
        due.holds("the runs meet several orders", asked[7] > 100);
        System.out.println("reasons 0 to 6, and more orders than one: " + java.util.Arrays.toString(asked));
        due.close();
    }

    /** Seven bends in most orders: the first and the last of them, how many there are, and who waits for whom. */
    private static void longestStrips(Due due) {
        for (String text : new String[] {"9u9d9u9d9u9d9u9", "9d8u9d8u9d8u9d8", "9u8d7u6d5u6d7u8"}) {
            BendOrders press = Due.strip(text);
            Reference reference = new Reference();
            for (int i = 0; i < text.length(); i++) {
                reference.type(text.charAt(i));
            }
            reference.takeStrip();
            due.is(text + ": orders()", press.orders(), reference.orders());
            due.is(text + ": count(5)", press.count(5), reference.count(5));
            for (int bend = 0; bend < 7; bend++) {
                due.is(text + ": order(" + bend + ")", press.order(bend), reference.order(bend));
                for (int other = 0; other < 7; other++) {
                    String call = text + ": mustWait(" + bend + ", " + other + ")";
                    due.is(call, press.mustWait(bend, other), reference.mustWait(bend, other));
                }
            }
        }
    }

    private int below(int bound) {
        seed = seed * 6364136223846793005L + 1442695040888963407L;
        return (int) ((seed >>> 33) % bound);
    }

    private int oneOf(int... values) {
        return values[below(values.length)];
    }

    private void run(int number) {
        press = new BendOrders();
        reference = new Reference();
        int before = due.wrong();
        int used = 0;
        if (number % 10 != 0) {
            used = takeNewStrip(1 + below(7));
        }
        if (number % 4 == 0) {
            // a low tool lets the strip strike itself, which it does behind a higher one too
            same("set 0,1", press.set(0, 1), reference.set(0, 1));
            used++;
        }
        boolean folds = number % 2 == 0;
        while (used < CALLS - 30 && due.wrong() == before) {
            used += folds && below(8) == 0 ? fold() : call();
        }
        if (due.wrong() != before) {
            System.out.println("the last calls of run " + number + ": " + calls);
        }
    }

    private void same(String call, int got, int want) {
        calls.addLast(call + "=" + got);
        if (calls.size() > 60) {
            calls.removeFirst();
        }
        due.is(call, got, want);
    }

    private int takeNewStrip(int bends) {
        int most = oneOf(1, 2, 3, 4, 9);
        int used = 2;
        same("clearText()", press.clearText(), reference.clearText());
        for (int i = 0; i <= 2 * bends; i++) {
            char sign = i % 2 == 0 ? (char) ('1' + below(most)) : below(2) == 0 ? 'u' : 'd';
            if (below(400) == 0) {
                sign = (char) oneOf('0', ':', 'U', 'v', 0, 255, 256 + 'u', 65535);
            }
            same("type(" + (int) sign + ")", press.type(sign), reference.type(sign));
            used++;
        }
        same("takeStrip()", press.takeStrip(), reference.takeStrip());
        return used;
    }

    private int anyBend() {
        return below(30) == 0 ? oneOf(-1, 7, 8, Integer.MIN_VALUE, Integer.MAX_VALUE) : below(reference.count(0) + 1 - below(2));
    }

    private int call() {
        int kind = below(100);
        int bend = anyBend();
        int other = anyBend();
        boolean yes = below(2) == 0;
        if (kind < 2) {
            return takeNewStrip(1 + below(7));
        } else if (kind < 18) {
            same("bend " + bend, press.bend(bend), reference.bend(bend));
        } else if (kind < 21) {
            same("flatten " + bend, press.flatten(bend), reference.flatten(bend));
        } else if (kind < 24) {
            int steps = oneOf(0, 1, 1, 1, 2, 3, 7, 8);
            same("follow " + steps, press.follow(steps), reference.follow(steps));
        } else if (kind < 36) {
            same("layOver", press.layOver(), reference.layOver());
        } else if (kind < 40) {
            int length = below(11);
            same("setLength " + other + "," + length, press.setLength(other, length), reference.setLength(other, length));
        } else if (kind < 43) {
            same("setUp " + bend + "," + yes, press.setUp(bend, yes), reference.setUp(bend, yes));
        } else if (kind < 45) {
            int which = below(6) - 1;
            int value = below(15) - 1;
            same("set " + which + "," + value, press.set(which, value), reference.set(which, value));
        } else if (kind < 48) {
            same("undo", press.undo(), reference.undo());
        } else if (kind < 49) {
            same("keep", press.keep(), reference.keep());
        } else if (kind < 50) {
            same("restore", press.restore(), reference.restore());
        } else if (kind < 66) {
            askBend(bend, below(7) - 1);
        } else if (kind < 67) {
            same("lengthOf " + other, press.lengthOf(other), reference.lengthOf(other));
        } else if (kind < 74) {
            same("end " + bend + "," + other + "," + yes, press.end(bend, other, yes), reference.end(bend, other, yes));
        } else if (kind < 79) {
            same("strikers " + bend, press.strikers(bend), reference.strikers(bend));
        } else if (kind < 83) {
            int place = below(9) - 1;
            same("order " + place, press.order(place), reference.order(place));
        } else if (kind < 86) {
            int orders = reference.orders();
            asked[7] += orders > 1 ? 1 : 0;
            same("orders", press.orders(), orders);
        } else if (kind < 91) {
            same("mustWait " + bend + "," + other, press.mustWait(bend, other), reference.mustWait(bend, other));
        } else {
            int what = below(16) - 1;
            same("count " + what, press.count(what), reference.count(what));
        }
        return 1;
    }

    /** Bends far more than chance would, for shapes that close upon themselves. */
    private int fold() {
        int used = 0;
        for (int i = 0; i < 4; i++) {
            int bend = below(reference.count(0));
            if (reference.ofBend(bend, 2) == 2) {
                same("layOver", press.layOver(), reference.layOver());
                used++;
            }
            askBend(bend, 2);
            same("strikers " + bend, press.strikers(bend), reference.strikers(bend));
            same("bend " + bend, press.bend(bend), reference.bend(bend));
            used += 3;
        }
        return used;
    }

    private void askBend(int bend, int what) {
        int want = reference.ofBend(bend, what);
        if ((what == 2 || what == 4) && want >= 0) {
            asked[want]++;
        }
        same("ofBend " + bend + "," + what, press.ofBend(bend, what), want);
    }
}
