import java.util.ArrayDeque;
import java.util.ArrayList;
import java.util.Deque;
import java.util.HashMap;
import java.util.HashSet;
import java.util.List;
import java.util.Map;
import java.util.Set;

/**
 * The document, word by word and without regard to speed: every grid point is a point of its own,
 * directions are names, and orders are found by trying rows of bends.
 */
final class Reference {
    static final int UNKNOWN = -1001;
    static final int BAD_VALUE = -1002;
    static final int FULL = -1003;
    static final int NOT_POSSIBLE = -1004;
    static final int NONE = -1005;

    private static final class Held {
        List<Integer> lengths = new ArrayList<>();
        List<Boolean> ups = new ArrayList<>();
        Set<Integer> done = new HashSet<>();
        boolean over = false;
        int bendings = 0;
        int[] settings = {6, 1, 1, 3};

        Held copy() {
            Held copy = new Held();
            copy.lengths = new ArrayList<>(lengths);
            copy.ups = new ArrayList<>(ups);
            copy.done = new HashSet<>(done);
            copy.over = over;
            copy.bendings = bendings;
            copy.settings = settings.clone();
            return copy;
        }
    }

    private Held held = new Held();
    private Held snapshot = null;
    private final Deque<Held> history = new ArrayDeque<>();
    private final StringBuilder text = new StringBuilder();
    private final Map<String, List<List<Integer>>> found = new HashMap<>();
    private final Map<String, Integer> reasons = new HashMap<>();

    Reference() {
        held.lengths.addAll(List.of(5, 5));
        held.ups.add(true);
    }

    private int bends() {
        return held.ups.size();
    }

    private boolean isBend(int bend) {
        return 0 <= bend && bend < bends();
    }

    private boolean isFlange(int flange) {
        return 0 <= flange && flange < held.lengths.size();
    }

    private void act() {
        history.addLast(held.copy());
        if (history.size() > 4) {
            history.removeFirst();
        }
    }

    // ---- strips

    int takeStrip() {
        int place = 0;
        List<Integer> lengths = new ArrayList<>();
        List<Boolean> ups = new ArrayList<>();
        while (true) {
            if (place == text.length()) {
                return -1100 - place;
            }
            if ("123456789".indexOf(text.charAt(place)) < 0) {
                return -1100 - place;
            }
            lengths.add(text.charAt(place) - '0');
            place++;
            if (place == text.length() && !ups.isEmpty()) {
                break;
            }
            if (place == text.length()) {
                return -1100 - place;
            }
            if (ups.size() == 7 || "ud".indexOf(text.charAt(place)) < 0) {
                return -1100 - place;
            }
            ups.add(text.charAt(place) == 'u');
            place++;
        }
        act();
        held.lengths = lengths;
        held.ups = ups;
        held.done = new HashSet<>();
        held.over = false;
        return ups.size();
    }

    int setLength(int flange, int length) {
        if (!isFlange(flange)) {
            return UNKNOWN;
        }
        if (length < 1 || length > 9) {
            return BAD_VALUE;
        }
        if (!held.done.isEmpty()) {
            return NOT_POSSIBLE;
        }
        int previous = held.lengths.get(flange);
        if (previous == length) {
            return NONE;
        }
        act();
        held.lengths.set(flange, length);
        return previous;
    }

    int setUp(int bend, boolean up) {
        if (!isBend(bend)) {
            return UNKNOWN;
        }
        if (!held.done.isEmpty()) {
            return NOT_POSSIBLE;
        }
        if (held.ups.get(bend) == up) {
            return NONE;
        }
        act();
        held.ups.set(bend, up);
        return (int) held.ups.stream().filter(each -> each).count();
    }

    int set(int which, int value) {
        int[] least = {1, 0, 0, 0};
        int[] most = {12, 3, 9, 9};
        if (which < 0 || which > 3 || value < least[which] || value > most[which]) {
            return BAD_VALUE;
        }
        int previous = held.settings[which];
        if (previous == value) {
            return NONE;
        }
        act();
        held.settings[which] = value;
        return previous;
    }

    // ---- bending

    int layOver() {
        act();
        held.over = !held.over;
        return held.over ? 1 : 0;
    }

    int bend(int bend) {
        if (!isBend(bend)) {
            return UNKNOWN;
        }
        if (reason(bend, held.done, held.over) != 0) {
            return NOT_POSSIBLE;
        }
        act();
        held.done.add(bend);
        held.bendings++;
        return held.done.size();
    }

    int flatten(int bend) {
        if (!isBend(bend)) {
            return UNKNOWN;
        }
        if (!held.done.contains(bend)) {
            return NONE;
        }
        act();
        held.done.remove(bend);
        return held.done.size();
    }

    int follow(int bends) {
        if (bends < 1 || bends > 7) {
            return BAD_VALUE;
        }
        List<List<Integer>> all = allOrders();
        if (all.isEmpty()) {
            return NOT_POSSIBLE;
        }
        List<Integer> first = all.get(0);
        if (first.isEmpty()) {
            return NONE;
        }
        act();
        for (int i = 0; i < bends && i < first.size(); i++) {
            int next = first.get(i);
            if (held.ups.get(next) == held.over) {
                held.over = !held.over;
            }
            held.done.add(next);
            held.bendings++;
        }
        return held.done.size();
    }

    // ---- texts

    int type(char character) {
        if (text.length() == 60) {
            return FULL;
        }
        text.append(character);
        return text.length();
    }

    int clearText() {
        int length = text.length();
        text.setLength(0);
        return length;
    }

    // ---- history

    int undo() {
        if (history.isEmpty()) {
            return NONE;
        }
        held = history.removeLast();
        return history.size();
    }

    int keep() {
        snapshot = held.copy();
        return held.done.size();
    }

    int restore() {
        if (snapshot == null) {
            return NONE;
        }
        act();
        held = snapshot.copy();
        return held.done.size();
    }

    // ---- what is told

    int ofBend(int bend, int what) {
        if (!isBend(bend)) {
            return UNKNOWN;
        }
        if (what == 0) {
            return held.ups.get(bend) ? 1 : 0;
        }
        if (what == 1) {
            return held.done.contains(bend) ? 1 : 0;
        }
        if (what == 2) {
            return reason(bend, held.done, held.over);
        }
        if (what == 3) {
            int back = held.settings[3];
            for (int unit = 1; unit < held.lengths.get(bend + 1) && back > 0; unit++) {
                back--;
            }
            return 90 + back;
        }
        if (what == 4) {
            return reason(bend, held.done, !held.over);
        }
        return BAD_VALUE;
    }

    int lengthOf(int flange) {
        return isFlange(flange) ? held.lengths.get(flange) : UNKNOWN;
    }

    int end(int bend, int flange, boolean y) {
        if (!isBend(bend) || !isFlange(flange)) {
            return UNKNOWN;
        }
        List<int[]> points = shape(bend, held.done, held.over).get(flange);
        int[] last = points.get(points.size() - 1);
        return y ? last[1] : last[0];
    }

    int strikers(int bend) {
        if (!isBend(bend)) {
            return UNKNOWN;
        }
        int set = 0;
        List<List<int[]>> flat = shape(bend, held.done, held.over);
        for (List<List<int[]>> each : List.of(flat, swung(flat, bend))) {
            for (int flange = 0; flange < each.size(); flange++) {
                for (int[] point : each.get(flange)) {
                    if (isUpperTool(point)) {
                        set |= 1 << flange;
                    }
                }
            }
        }
        return set;
    }

    int order(int place) {
        if (place < 0) {
            return BAD_VALUE;
        }
        List<List<Integer>> all = allOrders();
        if (all.isEmpty()) {
            return NOT_POSSIBLE;
        }
        return place < all.get(0).size() ? all.get(0).get(place) : NONE;
    }

    int orders() {
        return allOrders().size();
    }

    int mustWait(int bend, int other) {
        if (!isBend(bend) || !isBend(other) || held.done.contains(bend) || held.done.contains(other)) {
            return UNKNOWN;
        }
        if (bend == other) {
            return BAD_VALUE;
        }
        List<List<Integer>> all = allOrders();
        if (all.isEmpty()) {
            return NOT_POSSIBLE;
        }
        for (List<Integer> each : all) {
            if (each.indexOf(bend) < each.indexOf(other)) {
                return 0;
            }
        }
        return 1;
    }

    int count(int what) {
        switch (what) {
            case 0: return bends();
            case 1: return held.done.size();
            case 2: return held.over ? 1 : 0;
            case 3: return allOrders().isEmpty() ? 0 : 1;
            case 4: return possible();
            case 5: return turnings();
            case 6: return held.lengths.stream().mapToInt(each -> each).sum();
            case 7: return held.bendings;
            case 8: return held.settings[0];
            case 9: return held.settings[1];
            case 10: return held.settings[2];
            case 11: return held.settings[3];
            case 12: return history.size();
            case 13: return text.length();
            default: return BAD_VALUE;
        }
    }

    private int possible() {
        int set = 0;
        for (int bend = 0; bend < bends(); bend++) {
            if (reason(bend, held.done, held.over) == 0) {
                set |= 1 << bend;
            }
        }
        return set;
    }

    private int turnings() {
        List<List<Integer>> all = allOrders();
        if (all.isEmpty()) {
            return NONE;
        }
        boolean lies = held.over;
        int turned = 0;
        for (int bend : all.get(0)) {
            boolean up = held.ups.get(bend) != lies;
            if (!up) {
                lies = !lies;
                turned++;
            }
        }
        return turned;
    }

    // ---- shapes

    private static final List<String> COUNTER_CLOCKWISE = List.of("right", "up", "left", "down");

    private static int[] step(String direction) {
        switch (direction) {
            case "right": return new int[] {1, 0};
            case "up": return new int[] {0, 1};
            case "left": return new int[] {-1, 0};
            default: return new int[] {0, -1};
        }
    }

    private static String turned(String direction, boolean counterClockwise) {
        int place = COUNTER_CLOCKWISE.indexOf(direction);
        return COUNTER_CLOCKWISE.get((place + (counterClockwise ? 1 : 3)) % 4);
    }

    /** For each flange its points, from the end that is nearer to the tool to the one that is farther. */
    private List<List<int[]>> shape(int bend, Set<Integer> done, boolean over) {
        List<List<int[]>> flanges = new ArrayList<>();
        for (int i = 0; i < held.lengths.size(); i++) {
            flanges.add(new ArrayList<>());
        }
        int[] at = {0, 0};
        String direction = "right";
        for (int flange = bend + 1; flange < held.lengths.size(); flange++) {
            int between = flange - 1;
            if (between != bend && done.contains(between)) {
                boolean up = held.ups.get(between) != over;
                direction = turned(direction, up);
            }
            at = walk(flanges.get(flange), at, direction, held.lengths.get(flange));
        }
        at = new int[] {0, 0};
        direction = "left";
        for (int flange = bend; flange >= 0; flange--) {
            int between = flange;
            if (between != bend && done.contains(between)) {
                boolean up = held.ups.get(between) != over;
                direction = turned(direction, !up);
            }
            at = walk(flanges.get(flange), at, direction, held.lengths.get(flange));
        }
        return flanges;
    }

    private static int[] walk(List<int[]> points, int[] from, String direction, int length) {
        int[] step = step(direction);
        int[] at = from;
        points.add(at);
        for (int i = 0; i < length; i++) {
            at = new int[] {at[0] + step[0], at[1] + step[1]};
            points.add(at);
        }
        return at;
    }

    private static List<List<int[]>> swung(List<List<int[]>> flat, int bend) {
        List<List<int[]>> flanges = new ArrayList<>();
        for (int flange = 0; flange < flat.size(); flange++) {
            List<int[]> points = new ArrayList<>();
            for (int[] point : flat.get(flange)) {
                points.add(flange <= bend ? new int[] {point[1], -point[0]} : point);
            }
            flanges.add(points);
        }
        return flanges;
    }

    private boolean isUpperTool(int[] point) {
        int x = point[0];
        int y = point[1];
        if (y < 1 || y > held.settings[0]) {
            return false;
        }
        return y <= 2 ? x == 1 : x >= 1 && x <= 1 + held.settings[1];
    }

    private static boolean isLowerTool(int[] point) {
        return point[1] >= -3 && point[1] <= -1 && point[0] >= 1 && point[0] <= 3;
    }

    private int reason(int bend, Set<Integer> done, boolean over) {
        StringBuilder key = new StringBuilder(stripKey()).append(bend).append(over);
        for (int each = 0; each < bends(); each++) {
            key.append(done.contains(each) ? '+' : '-');
        }
        return reasons.computeIfAbsent(key.toString(), unused -> askedReason(bend, done, over));
    }

    private int askedReason(int bend, Set<Integer> done, boolean over) {
        if (done.contains(bend)) {
            return 1;
        }
        boolean up = over ? !held.ups.get(bend) : held.ups.get(bend);
        if (!up) {
            return 2;
        }
        int clamped = held.lengths.get(bend + 1);
        for (int next = bend + 1; next < bends(); next++) {
            if (done.contains(next)) {
                break;
            }
            clamped += held.lengths.get(next + 1);
        }
        if (clamped < held.settings[2]) {
            return 3;
        }
        List<List<int[]>> flat = shape(bend, done, over);
        List<List<int[]>> behind = swung(flat, bend);
        boolean upper = false;
        boolean lower = false;
        for (List<List<int[]>> each : List.of(flat, behind)) {
            for (List<int[]> flange : each) {
                for (int[] point : flange) {
                    upper |= isUpperTool(point);
                    lower |= isLowerTool(point);
                }
            }
        }
        if (upper) {
            return 4;
        }
        if (lower) {
            return 5;
        }
        return strikesItself(behind) ? 6 : 0;
    }

    private static boolean strikesItself(List<List<int[]>> flanges) {
        Map<String, Integer> earliest = new HashMap<>();
        for (int flange = 0; flange < flanges.size(); flange++) {
            for (int[] point : flanges.get(flange)) {
                Integer other = earliest.putIfAbsent(point[0] + "," + point[1], flange);
                if (other != null && flange - other >= 2) {
                    return true;
                }
            }
        }
        return false;
    }

    // ---- orders

    private String stripKey() {
        StringBuilder key = new StringBuilder();
        for (int bend = 0; bend < bends(); bend++) {
            key.append(held.lengths.get(bend)).append(held.ups.get(bend) ? 'u' : 'd');
        }
        key.append(held.lengths.get(bends()));
        for (int which = 0; which < 3; which++) {
            key.append('/').append(held.settings[which]);
        }
        return key.append('/').toString();
    }

    private List<List<Integer>> allOrders() {
        StringBuilder key = new StringBuilder(stripKey()).append(held.over);
        for (int bend = 0; bend < bends(); bend++) {
            key.append(held.done.contains(bend) ? '+' : '-');
        }
        List<List<Integer>> all = found.get(key.toString());
        if (all == null) {
            all = new ArrayList<>();
            tryAll(new HashSet<>(held.done), held.over, new ArrayList<>(), all);
            found.put(key.toString(), all);
        }
        return all;
    }

    private void tryAll(Set<Integer> done, boolean over, List<Integer> row, List<List<Integer>> all) {
        if (done.size() == bends()) {
            all.add(new ArrayList<>(row));
            return;
        }
        for (int bend = 0; bend < bends(); bend++) {
            if (done.contains(bend)) {
                continue;
            }
            boolean lies = held.ups.get(bend) == over ? !over : over;
            if (reason(bend, done, lies) != 0) {
                continue;
            }
            done.add(bend);
            row.add(bend);
            tryAll(done, lies, row, all);
            row.remove(row.size() - 1);
            done.remove(bend);
        }
    }
}
