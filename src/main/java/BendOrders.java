public final class BendOrders {
    public static final int UNKNOWN = -1001;
    public static final int BAD_VALUE = -1002;
    public static final int FULL = -1003;
    public static final int NOT_POSSIBLE = -1004;
    public static final int NONE = -1005;

    private static final int MOST_BENDS = 7;
    private static final int MOST_FLANGES = 8;
    private static final int MOST_LENGTH = 9;
    private static final int MOST_CHARACTERS = 60;
    private static final int MOST_STATES = 4;
    private static final int FAULTLESS = -1;
    private static final int FAULT_BASE = -1100;

    private static final int UPPER_HEIGHT = 0;
    private static final int UPPER_WIDTH = 1;
    private static final int CLAMP_HOLD = 2;
    private static final int SPRING = 3;
    private static final int[] LEAST_SETTINGS = {1, 0, 0, 0};
    private static final int[] MOST_SETTINGS = {12, 3, 9, 9};
    private static final int[] FIRST_SETTINGS = {6, 1, 1, 3};

    private static final int CAN_BE_DONE = 0;
    private static final int IS_DONE = 1;
    private static final int IS_NOT_UP = 2;
    private static final int DOES_NOT_HOLD = 3;
    private static final int STRIKES_UPPER = 4;
    private static final int STRIKES_LOWER = 5;
    private static final int STRIKES_ITSELF = 6;

    private final State now;
    private final State snapshot;
    private boolean kept;
    private final History history;
    private final Text text;
    private final Press press;
    private final Plan plan;

    public BendOrders() {
        now = new State();
        snapshot = new State();
        kept = false;
        history = new History();
        text = new Text();
        press = new Press();
        plan = new Plan();
    }

    // ---- strips

    public int takeStrip() {
        int fault = text.fault();
        if (fault != FAULTLESS) {
            return FAULT_BASE - fault;
        }
        history.record(now);
        now.beginStrip(text.pairs());
        for (int flange = 0; flange <= now.bends; flange++) {
            now.putLength(flange, text.signAt(2 * flange) - '0');
        }
        for (int bend = 0; bend < now.bends; bend++) {
            now.putUp(bend, text.signAt(2 * bend + 1) == 'u');
        }
        return now.bends;
    }

    public int setLength(int flange, int length) {
        if (!now.hasFlange(flange)) {
            return UNKNOWN;
        }
        if (length < 1 || length > MOST_LENGTH) {
            return BAD_VALUE;
        }
        if (now.done != 0) {
            return NOT_POSSIBLE;
        }
        int previous = now.lengthAt(flange);
        if (previous == length) {
            return NONE;
        }
        history.record(now);
        now.putLength(flange, length);
        return previous;
    }

    public int setUp(int bend, boolean up) {
        if (!now.hasBend(bend)) {
            return UNKNOWN;
        }
        if (now.done != 0) {
            return NOT_POSSIBLE;
        }
        if (now.isUp(bend) == up) {
            return NONE;
        }
        history.record(now);
        now.putUp(bend, up);
        return Integer.bitCount(now.ups);
    }

    public int set(int which, int value) {
        if (!mayBeSet(which, value)) {
            return BAD_VALUE;
        }
        int previous = now.settingAt(which);
        if (previous == value) {
            return NONE;
        }
        history.record(now);
        now.putSetting(which, value);
        return previous;
    }

    private static boolean mayBeSet(int which, int value) {
        if (which < 0 || which >= LEAST_SETTINGS.length || which >= MOST_SETTINGS.length) {
            return false;
        }
        return value >= LEAST_SETTINGS[which] && value <= MOST_SETTINGS[which];
    }

    // ---- bending

    public int layOver() {
        history.record(now);
        now.over = !now.over;
        return asNumber(now.over);
    }

    public int bend(int bend) {
        if (!now.hasBend(bend)) {
            return UNKNOWN;
        }
        if (press.reason(now, bend, now.done, now.over) != CAN_BE_DONE) {
            return NOT_POSSIBLE;
        }
        history.record(now);
        now.doBend(bend);
        return now.doneBends();
    }

    public int flatten(int bend) {
        if (!now.hasBend(bend)) {
            return UNKNOWN;
        }
        if (!now.isDone(bend)) {
            return NONE;
        }
        history.record(now);
        now.done &= ~(1 << bend);
        return now.doneBends();
    }

    public int follow(int bends) {
        if (bends < 1 || bends > MOST_BENDS) {
            return BAD_VALUE;
        }
        if (!hasOrder()) {
            return NOT_POSSIBLE;
        }
        int open = now.openBends();
        if (open == 0) {
            return NONE;
        }
        history.record(now);
        int steps = Math.min(bends, open);
        for (int i = 0; i < steps; i++) {
            int bend = plan.firstStep(now.done);
            now.over = !now.isUp(bend);
            now.doBend(bend);
        }
        return now.doneBends();
    }

    // ---- texts

    public int type(char character) {
        if (text.size == MOST_CHARACTERS) {
            return FULL;
        }
        text.append(character);
        return text.size;
    }

    public int clearText() {
        int size = text.size;
        text.size = 0;
        return size;
    }

    // ---- history

    public int undo() {
        if (history.size == 0) {
            return NONE;
        }
        history.takeBack(now);
        return history.size;
    }

    public int keep() {
        snapshot.copyFrom(now);
        kept = true;
        return now.doneBends();
    }

    public int restore() {
        if (!kept) {
            return NONE;
        }
        history.record(now);
        now.copyFrom(snapshot);
        return now.doneBends();
    }

    // ---- what is told

    public int ofBend(int bend, int what) {
        if (!now.hasBend(bend)) {
            return UNKNOWN;
        }
        switch (what) {
            case 0:
                return asNumber(now.isUp(bend));
            case 1:
                return asNumber(now.isDone(bend));
            case 2:
                return press.reason(now, bend, now.done, now.over);
            case 3:
                return now.degrees(bend);
            case 4:
                return press.reason(now, bend, now.done, !now.over);
            default:
                return BAD_VALUE;
        }
    }

    public int lengthOf(int flange) {
        if (!now.hasFlange(flange)) {
            return UNKNOWN;
        }
        return now.lengthAt(flange);
    }

    public int end(int bend, int flange, boolean y) {
        if (!now.hasBend(bend) || !now.hasFlange(flange)) {
            return UNKNOWN;
        }
        return press.farEnd(now, bend, flange, y);
    }

    public int strikers(int bend) {
        if (!now.hasBend(bend)) {
            return UNKNOWN;
        }
        return press.upperStrikers(now, bend, now.done, now.over);
    }

    public int order(int place) {
        if (place < 0) {
            return BAD_VALUE;
        }
        if (!hasOrder()) {
            return NOT_POSSIBLE;
        }
        if (place >= now.openBends()) {
            return NONE;
        }
        int done = now.done;
        for (int i = 0; i < place; i++) {
            done |= 1 << plan.firstStep(done);
        }
        return plan.firstStep(done);
    }

    public int orders() {
        plan.prepare(now);
        return plan.waysFrom(now.done);
    }

    public int mustWait(int bend, int other) {
        if (!isOpen(bend) || !isOpen(other)) {
            return UNKNOWN;
        }
        if (bend == other) {
            return BAD_VALUE;
        }
        if (!hasOrder()) {
            return NOT_POSSIBLE;
        }
        return asNumber(!plan.canPrecede(now.done, bend, other));
    }

    public int count(int what) {
        switch (what) {
            case 0:
                return now.bends;
            case 1:
                return now.doneBends();
            case 2:
                return asNumber(now.over);
            case 3:
                return asNumber(hasOrder());
            case 4:
                return possibleNow();
            case 5:
                return hasOrder() ? plan.turnings(now.done, now.over) : NONE;
            case 6:
                return now.wholeLength();
            case 7:
                return now.bendings;
            case 8:
            case 9:
            case 10:
            case 11:
                return now.settingAt(what - 8);
            case 12:
                return history.size;
            case 13:
                return text.size;
            default:
                return BAD_VALUE;
        }
    }

    private int possibleNow() {
        int possible = 0;
        for (int bend = 0; bend < now.bends; bend++) {
            if (press.reason(now, bend, now.done, now.over) == CAN_BE_DONE) {
                possible |= 1 << bend;
            }
        }
        return possible;
    }

    private boolean hasOrder() {
        plan.prepare(now);
        return plan.waysFrom(now.done) > 0;
    }

    private boolean isOpen(int bend) {
        return now.hasBend(bend) && !now.isDone(bend);
    }

    private static int asNumber(boolean yes) {
        return yes ? 1 : 0;
    }

    /** All that undo() and restore() bring back. Sets of bends are bits, so that they index the plan's rows. */
    static final class State {
        int bends;
        int ups;
        int done;
        boolean over;
        int bendings;
        private final int[] lengths;
        private final int[] settings;

        State() {
            bends = 1;
            ups = 1;
            done = 0;
            over = false;
            bendings = 0;
            lengths = new int[] {5, 5, 0, 0, 0, 0, 0, 0};
            settings = new int[FIRST_SETTINGS.length];
            System.arraycopy(FIRST_SETTINGS, 0, settings, 0, settings.length);
        }

        void copyFrom(State other) {
            bends = other.bends;
            ups = other.ups;
            done = other.done;
            over = other.over;
            bendings = other.bendings;
            System.arraycopy(other.lengths, 0, lengths, 0, lengths.length);
            System.arraycopy(other.settings, 0, settings, 0, settings.length);
        }

        void beginStrip(int number) {
            bends = Math.max(1, Math.min(number, MOST_BENDS));
            ups = 0;
            done = 0;
            over = false;
        }

        boolean hasBend(int bend) {
            return bend >= 0 && bend < bends;
        }

        boolean hasFlange(int flange) {
            return flange >= 0 && flange <= bends;
        }

        boolean isUp(int bend) {
            return (ups >> bend & 1) == 1;
        }

        boolean isDone(int bend) {
            return (done >> bend & 1) == 1;
        }

        void putUp(int bend, boolean up) {
            ups = up ? ups | 1 << bend : ups & ~(1 << bend);
        }

        void doBend(int bend) {
            done |= 1 << bend;
            bendings++;
        }

        int allBends() {
            return (1 << bends) - 1;
        }

        int doneBends() {
            return Integer.bitCount(done);
        }

        int openBends() {
            return bends - doneBends();
        }

        int lengthAt(int flange) {
            return flange >= 0 && flange < lengths.length ? lengths[flange] : 0;
        }

        void putLength(int flange, int length) {
            if (flange >= 0 && flange < lengths.length) {
                lengths[flange] = length;
            }
        }

        int settingAt(int which) {
            return which >= 0 && which < settings.length ? settings[which] : 0;
        }

        void putSetting(int which, int value) {
            if (which >= 0 && which < settings.length) {
                settings[which] = value;
            }
        }

        int wholeLength() {
            int sum = 0;
            for (int flange = 0; flange <= bends; flange++) {
                sum += lengthAt(flange);
            }
            return sum;
        }

        int degrees(int bend) {
            int back = settingAt(SPRING) - (lengthAt(bend + 1) - 1);
            return 90 + Math.max(0, back);
        }

        int clampedLength(int bend, int bent) {
            int sum = lengthAt(bend + 1);
            for (int next = bend + 1; next < bends && (bent >> next & 1) == 0; next++) {
                sum += lengthAt(next + 1);
            }
            return sum;
        }

        /** Whether the same bends can be done in the same order: the plan's rows hang on nothing else. */
        boolean bendsLike(State other) {
            if (bends != other.bends || ups != other.ups) {
                return false;
            }
            for (int flange = 0; flange <= bends; flange++) {
                if (lengthAt(flange) != other.lengthAt(flange)) {
                    return false;
                }
            }
            return settingAt(UPPER_HEIGHT) == other.settingAt(UPPER_HEIGHT)
                && settingAt(UPPER_WIDTH) == other.settingAt(UPPER_WIDTH)
                && settingAt(CLAMP_HOLD) == other.settingAt(CLAMP_HOLD);
        }
    }

    /** The states are made once and written over, as nothing that a run makes is given back. */
    static final class History {
        int size;
        private final State[] states;

        History() {
            size = 0;
            states = new State[MOST_STATES];
            for (int i = 0; i < states.length; i++) {
                states[i] = new State();
            }
        }

        void record(State state) {
            if (size >= states.length) {
                dropOldest();
            }
            State row = rowAt(size);
            if (row != null) {
                row.copyFrom(state);
                size++;
            }
        }

        void takeBack(State state) {
            State row = rowAt(size - 1);
            if (row != null) {
                state.copyFrom(row);
                size--;
            }
        }

        private void dropOldest() {
            State oldest = rowAt(0);
            for (int i = 1; i < states.length; i++) {
                states[i - 1] = states[i];
            }
            size = states.length - 1;
            states[size] = oldest;
        }

        private State rowAt(int index) {
            return index >= 0 && index < states.length ? states[index] : null;
        }
    }

    static final class Text {
        int size;
        private final char[] signs;

        Text() {
            size = 0;
            signs = new char[MOST_CHARACTERS];
        }

        void append(char sign) {
            if (size >= 0 && size < signs.length) {
                signs[size] = sign;
                size++;
            }
        }

        char signAt(int index) {
            return index >= 0 && index < size && index < signs.length ? signs[index] : (char) 0;
        }

        /** How many bends the text has, if it has no fault. */
        int pairs() {
            return size / 2;
        }

        int fault() {
            for (int i = 0; i < size; i++) {
                if (!isAllowed(i)) {
                    return i;
                }
            }
            boolean endsBehindBend = size >= 3 && size % 2 == 1;
            return endsBehindBend ? FAULTLESS : size;
        }

        private boolean isAllowed(int index) {
            char sign = signAt(index);
            if (index > 2 * MOST_BENDS) {
                return false;
            }
            return index % 2 == 0 ? sign >= '1' && sign <= '9' : sign == 'u' || sign == 'd';
        }
    }

    /**
     * The strip on the grid. A flange is straight, so the box around it holds its points and no others,
     * and two flanges (or a flange and a block of the tool) meet just where their boxes do.
     */
    static final class Shape {
        private int flanges;
        private int x;
        private int y;
        private int stepX;
        private int stepY;
        private final int[] left;
        private final int[] right;
        private final int[] bottom;
        private final int[] top;
        private final int[] farX;
        private final int[] farY;

        Shape() {
            left = new int[MOST_FLANGES];
            right = new int[MOST_FLANGES];
            bottom = new int[MOST_FLANGES];
            top = new int[MOST_FLANGES];
            farX = new int[MOST_FLANGES];
            farY = new int[MOST_FLANGES];
        }

        void layFlat(State state, int bend, int done, boolean over) {
            int bent = done & ~(1 << bend);
            flanges = Math.min(state.bends + 1, MOST_FLANGES);
            startAtTool(1);
            for (int flange = bend + 1; flange < flanges; flange++) {
                turnAt(flange - 1, bent, state.isUp(flange - 1) != over);
                draw(flange, state.lengthAt(flange));
            }
            startAtTool(-1);
            for (int flange = bend; flange >= 0; flange--) {
                turnAt(flange, bent, state.isUp(flange) == over);
                draw(flange, state.lengthAt(flange));
            }
        }

        private void startAtTool(int direction) {
            x = 0;
            y = 0;
            stepX = direction;
            stepY = 0;
        }

        private void turnAt(int bend, int bent, boolean counterClockwise) {
            if ((bent >> bend & 1) == 0) {
                return;
            }
            int oldX = stepX;
            stepX = counterClockwise ? -stepY : stepY;
            stepY = counterClockwise ? oldX : -oldX;
        }

        private void draw(int flange, int length) {
            if (flange < 0 || flange >= MOST_FLANGES) {
                return;
            }
            int nearX = x;
            int nearY = y;
            x += stepX * length;
            y += stepY * length;
            left[flange] = stepX < 0 ? x : nearX;
            right[flange] = stepX < 0 ? nearX : x;
            bottom[flange] = stepY < 0 ? y : nearY;
            top[flange] = stepY < 0 ? nearY : y;
            farX[flange] = x;
            farY[flange] = y;
        }

        /** Turns the boxes of the left side alone: the far ends are told of the strip as it lies. */
        void swingUp(int bend) {
            for (int flange = 0; flange <= bend && flange < MOST_FLANGES; flange++) {
                int oldLeft = left[flange];
                int oldRight = right[flange];
                left[flange] = bottom[flange];
                right[flange] = top[flange];
                bottom[flange] = -oldRight;
                top[flange] = -oldLeft;
            }
        }

        int farEndX(int flange) {
            return flange >= 0 && flange < MOST_FLANGES ? farX[flange] : 0;
        }

        int farEndY(int flange) {
            return flange >= 0 && flange < MOST_FLANGES ? farY[flange] : 0;
        }

        /** The flanges that have a point in a block, as bits; a block whose last row is below its first has no point. */
        int flangesIn(int firstX, int lastX, int firstY, int lastY) {
            int found = 0;
            for (int flange = 0; flange < flanges && flange < MOST_FLANGES; flange++) {
                boolean beside = right[flange] < firstX || left[flange] > lastX;
                boolean above = bottom[flange] > lastY;
                boolean below = top[flange] < firstY;
                if (!beside && !above && !below && firstY <= lastY) {
                    found |= 1 << flange;
                }
            }
            return found;
        }

        /** Neighbours always share their corner; a bit two places up or more is a flange that is no neighbour. */
        boolean strikesItself() {
            for (int flange = 0; flange < flanges && flange < MOST_FLANGES; flange++) {
                int met = flangesIn(left[flange], right[flange], bottom[flange], top[flange]);
                if (met >> (flange + 2) != 0) {
                    return true;
                }
            }
            return false;
        }
    }

    /** The tool; what is done, and how the strip lies, are told apart from the state, as the plan asks what would be. */
    static final class Press {
        private final Shape shape;

        Press() {
            shape = new Shape();
        }

        int reason(State state, int bend, int done, boolean over) {
            if ((done >> bend & 1) == 1) {
                return IS_DONE;
            }
            if (state.isUp(bend) == over) {
                return IS_NOT_UP;
            }
            if (state.clampedLength(bend, done) < state.settingAt(CLAMP_HOLD)) {
                return DOES_NOT_HOLD;
            }
            shape.layFlat(state, bend, done, over);
            boolean upper = inUpper(state) != 0;
            boolean lower = inLower() != 0;
            shape.swingUp(bend);
            if (upper || inUpper(state) != 0) {
                return STRIKES_UPPER;
            }
            if (lower || inLower() != 0) {
                return STRIKES_LOWER;
            }
            return shape.strikesItself() ? STRIKES_ITSELF : CAN_BE_DONE;
        }

        int upperStrikers(State state, int bend, int done, boolean over) {
            shape.layFlat(state, bend, done, over);
            int flat = inUpper(state);
            shape.swingUp(bend);
            return flat | inUpper(state);
        }

        int farEnd(State state, int bend, int flange, boolean vertical) {
            shape.layFlat(state, bend, state.done, state.over);
            return vertical ? shape.farEndY(flange) : shape.farEndX(flange);
        }

        private int inUpper(State state) {
            int height = state.settingAt(UPPER_HEIGHT);
            int width = state.settingAt(UPPER_WIDTH);
            int neck = shape.flangesIn(1, 1, 1, Math.min(2, height));
            int head = shape.flangesIn(1, 1 + width, 3, height);
            return neck | head;
        }

        private int inLower() {
            return shape.flangesIn(1, 3, -3, -1);
        }
    }

    /**
     * The orders. Which bends can be done hangs on the set of those that are done and not on their order
     * (the strip is laid over as the bend needs it), so a row by sets replaces the trying of all rows of bends.
     */
    static final class Plan {
        private final Press press;
        private final State planned;
        private boolean made;
        private final int[] ways;
        private final int[] steps;
        private final boolean[] reached;

        Plan() {
            press = new Press();
            planned = new State();
            made = false;
            ways = new int[1 << MOST_BENDS];
            steps = new int[1 << MOST_BENDS];
            reached = new boolean[1 << MOST_BENDS];
        }

        void prepare(State state) {
            if (made && planned.bendsLike(state)) {
                return;
            }
            planned.copyFrom(state);
            int all = planned.allBends();
            for (int done = Math.min(all, ways.length - 1); done >= 0; done--) {
                fillRow(done, all);
            }
            made = true;
        }

        private void fillRow(int done, int all) {
            int sum = done == all ? 1 : 0;
            int leading = 0;
            for (int bend = 0; bend < planned.bends; bend++) {
                int further = waysFrom(done | 1 << bend);
                boolean over = !planned.isUp(bend);
                if (further > 0 && press.reason(planned, bend, done, over) == CAN_BE_DONE) {
                    sum += further;
                    leading |= 1 << bend;
                }
            }
            if (done >= 0 && done < ways.length && done < steps.length) {
                ways[done] = sum;
                steps[done] = leading;
            }
        }

        int waysFrom(int done) {
            return done >= 0 && done < ways.length ? ways[done] : 0;
        }

        /** The bends that can be done next and still lead to the end of an order. */
        private int stepsFrom(int done) {
            return done >= 0 && done < steps.length ? steps[done] : 0;
        }

        /** Asked only where an order goes on; the answer 0 elsewhere has no meaning. */
        int firstStep(int done) {
            int leading = stepsFrom(done);
            for (int bend = 0; bend < planned.bends; bend++) {
                if ((leading >> bend & 1) == 1) {
                    return bend;
                }
            }
            return 0;
        }

        int turnings(int done, boolean over) {
            int all = planned.allBends();
            int turned = 0;
            for (int i = 0; i < planned.bends && done != all; i++) {
                int bend = firstStep(done);
                boolean needed = !planned.isUp(bend);
                if (needed != over) {
                    turned++;
                }
                over = needed;
                done |= 1 << bend;
            }
            return turned;
        }

        /** Whether an order has the bend ahead of the other: goes on only over sets that hold neither of them. */
        boolean canPrecede(int done, int bend, int other) {
            for (int i = 0; i < reached.length; i++) {
                reached[i] = i == done;
            }
            for (int i = Math.max(0, done); i < reached.length; i++) {
                int leading = reached[i] ? stepsFrom(i) : 0;
                if ((leading >> bend & 1) == 1) {
                    return true;
                }
                reachFrom(i, leading & ~(1 << other));
            }
            return false;
        }

        private void reachFrom(int done, int leading) {
            for (int bend = 0; bend < planned.bends; bend++) {
                int next = done | 1 << bend;
                if ((leading >> bend & 1) == 1 && next >= 0 && next < reached.length) {
                    reached[next] = true;
                }
            }
        }
    }
}
