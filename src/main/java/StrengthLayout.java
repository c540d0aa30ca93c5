/**
 * A layout of ten places by conditions with strengths. Stronger conditions are filled first, some are left
 * unfilled, and the places then settle as near to their values as the filled conditions allow.
 */
public final class StrengthLayout {
    public static final int NONE = -1;

    private static final int PLACES = 10;
    /** A node beside the places that is always 0: it stands for a right place that is missing. */
    private static final int ZERO = PLACES;
    private static final int NODES = PLACES + 1;

    private static final int MOST_VALUE = 1000;
    private static final int MOST_NUMBER = 2000;
    private static final int MOST_STAY = 9;
    private static final int FIRST_STAY = 5;
    private static final int MOST_STRENGTH = 3;
    private static final int USUAL_STRENGTH = 1;

    private static final int AT_MOST = 0;
    private static final int EQUAL = 1;
    private static final int AT_LEAST = 2;

    private static final int MOST_CONDITIONS = 16;
    private static final int MOST_EDITS = 3;
    private static final int MOST_SAVED = 8;
    private static final int MOST_CHARACTERS = 60;

    private static final int PLACE_PROPERTIES = 6;
    private static final int CONDITION_PROPERTIES = 10;
    private static final int CULPRITS = 8;
    private static final int EDIT_PROPERTIES = 5;
    private static final int COUNTS = 8;

    private final Layout now = new Layout();
    private final Filling filling = new Filling();
    private final History history = new History();

    // What would be is worked out on these, so that no question makes new objects.
    private final Layout trial = new Layout();
    private final Filling trialFilling = new Filling();

    // Which conditions are filled without condition k, as bits. It is worked out when it is first asked for after a
    // change, since the culprits of all conditions ask for the same fillings.
    private final int[] filledWithout = new int[MOST_CONDITIONS];
    private boolean knowsWithout;

    private final int[] buffer = new int[MOST_CHARACTERS];
    private int length;
    private final TextReader reader = new TextReader();

    public StrengthLayout() {
        // What a filling tells at first is what it tells of a layout without conditions and edits.
    }

    // ---- conditions

    public int add(int left, int right, int sign, int number, int strength)
            throws IndexOutOfBoundsException, IllegalArgumentException, IllegalStateException {
        needIndex(isPlace(left) && (right == NONE || isPlace(right) && right != left));
        needArgument(isWithin(sign, AT_MOST, AT_LEAST) && isNumber(number) && isStrength(strength));
        needState(now.conditions.size < MOST_CONDITIONS);
        history.save(now);
        now.conditions.push(left, right, sign, number, strength);
        fillAndSettle();
        return now.conditions.size - 1;
    }

    public int remove(int k) throws IndexOutOfBoundsException {
        needIndex(isCondition(k));
        int was = filling.ofConditions.filledOne(k);
        history.save(now);
        now.conditions.drop(k);
        fillAndSettle();
        return was;
    }

    public int setStrength(int k, int strength) throws IndexOutOfBoundsException, IllegalArgumentException {
        needIndex(isCondition(k));
        needArgument(isStrength(strength));
        return change(now.conditions.strength, k, strength);
    }

    public int setNumber(int k, int number) throws IndexOutOfBoundsException, IllegalArgumentException {
        needIndex(isCondition(k));
        needArgument(isNumber(number));
        return change(now.conditions.number, k, number);
    }

    public int setStay(int place, int stay) throws IndexOutOfBoundsException, IllegalArgumentException {
        needIndex(isPlace(place));
        needArgument(isWithin(stay, 0, MOST_STAY));
        return change(now.stays, place, stay);
    }

    // ---- edits

    public int edit(int place, int wish, int strength)
            throws IndexOutOfBoundsException, IllegalArgumentException, IllegalStateException {
        needIndex(isPlace(place));
        needArgument(isValue(wish) && isStrength(strength));
        needState(now.editOf(place) != NONE || now.edits.size < MOST_EDITS);
        history.save(now);
        now.wishFor(place, wish, strength);
        fillAndSettle();
        return now.values[place];
    }

    public int endEdits() {
        int were = now.edits.size;
        history.save(now);
        now.edits.size = 0;
        fillAnew();
        return were;
    }

    public int settleFrom(int value) throws IllegalArgumentException {
        needArgument(isValue(value));
        history.save(now);
        for (int place = 0; place < PLACES; place++) {
            now.values[place] = value;
        }
        fillAndSettle();
        return placesNotAt(value);
    }

    // ---- texts

    public int append(int code) throws IllegalArgumentException, IllegalStateException {
        needArgument(isWithin(code, 33, 126));
        needState(length < MOST_CHARACTERS);
        buffer[length] = code;
        length++;
        return length;
    }

    public int clearBuffer() {
        int had = length;
        length = 0;
        return had;
    }

    public int firstError() {
        return readBuffer();
    }

    public int load() throws IllegalArgumentException, IllegalStateException {
        needArgument(readBuffer() == length && reader.ends());
        needState(now.conditions.size + reader.read.size <= MOST_CONDITIONS);
        history.save(now);
        for (int k = 0; k < reader.read.size; k++) {
            now.conditions.pushRowOf(reader.read, k);
        }
        length = 0;
        fillAndSettle();
        return now.conditions.size;
    }

    public int undo() throws IllegalStateException {
        needState(history.size > 0);
        history.restore(now);
        fillAnew();
        return history.size;
    }

    // ---- what there is

    public int place(int place, int what) throws IndexOutOfBoundsException, IllegalArgumentException {
        needIndex(isPlace(place));
        needArgument(isWithin(what, 0, PLACE_PROPERTIES - 1));
        return placeProperty(place, what);
    }

    public int condition(int k, int what) throws IndexOutOfBoundsException, IllegalArgumentException {
        needIndex(isCondition(k));
        needArgument(isWithin(what, 0, CONDITION_PROPERTIES - 1));
        if (what == CULPRITS) {
            knowWithout();
        }
        return conditionProperty(k, what);
    }

    public int edited(int k, int what) throws IndexOutOfBoundsException, IllegalArgumentException {
        needIndex(isWithin(k, 0, now.edits.size - 1));
        needArgument(isWithin(what, 0, EDIT_PROPERTIES - 1));
        return editProperty(k, what);
    }

    public int widest(int one, int other) throws IndexOutOfBoundsException {
        needIndex(isPlace(one) && isPlace(other));
        return filling.bounds.greatest(one, other);
    }

    public int count(int what) throws IllegalArgumentException {
        needArgument(isWithin(what, 0, COUNTS - 1));
        return countOf(what);
    }

    // ---- what would be; nothing is changed

    public int ifEdited(int place, int wish, int strength, int asked)
            throws IndexOutOfBoundsException, IllegalArgumentException {
        needIndex(isPlace(place) && isPlace(asked));
        needArgument(isValue(wish) && isStrength(strength));
        trial.copyFrom(now);
        trial.wishFor(place, wish, strength);
        trialFilling.fill(trial, NONE);
        trialFilling.settle(trial);
        return trial.values[asked];
    }

    public int ifRemoved(int k) throws IndexOutOfBoundsException {
        needIndex(isCondition(k));
        knowWithout();
        return Integer.bitCount(filledWithout[k]);
    }

    public int neededStrength(int k) throws IndexOutOfBoundsException {
        needIndex(isCondition(k));
        return leastFillingStrength(k);
    }

    public float freedom() {
        int widths = 0;
        for (int place = 0; place < PLACES; place++) {
            widths += filling.bounds.width(place);
        }
        return (float) widths / 20000.0f;
    }

    public long digest() {
        knowWithout();
        long hash = 2129L;
        for (int what = 0; what < COUNTS; what++) {
            hash = mixed(hash, countOf(what));
        }
        hash = withPlaces(hash);
        hash = withConditions(hash);
        hash = withEdits(hash);
        hash = withWidest(hash);
        hash = mixed(hash, bitsOf(freedom()));
        return withBuffer(hash);
    }

    // ---- what the calls ask of their arguments

    private static void needIndex(boolean given) {
        if (!given) {
            throw new IndexOutOfBoundsException("there is no such place, condition or edit");
        }
    }

    private static void needArgument(boolean given) {
        if (!given) {
            throw new IllegalArgumentException("an argument is out of range, or the buffer is not a complete text");
        }
    }

    private static void needState(boolean given) {
        if (!given) {
            throw new IllegalStateException("there is no room for it, or nothing to undo");
        }
    }

    private static boolean isWithin(int value, int least, int most) {
        return least <= value && value <= most;
    }

    private static boolean isPlace(int place) {
        return isWithin(place, 0, PLACES - 1);
    }

    private static boolean isValue(int value) {
        return isWithin(value, -MOST_VALUE, MOST_VALUE);
    }

    private static boolean isNumber(int number) {
        return isWithin(number, -MOST_NUMBER, MOST_NUMBER);
    }

    private static boolean isStrength(int strength) {
        return isWithin(strength, 0, MOST_STRENGTH);
    }

    private boolean isCondition(int k) {
        return isWithin(k, 0, now.conditions.size - 1);
    }

    // ---- changes

    private int change(int[] row, int at, int value) {
        int previous = row[at];
        history.save(now);
        row[at] = value;
        fillAndSettle();
        return previous;
    }

    private void fillAndSettle() {
        fillAnew();
        filling.settle(now);
    }

    private void fillAnew() {
        filling.fill(now, NONE);
        knowsWithout = false;
    }

    private void knowWithout() {
        if (knowsWithout) {
            return;
        }
        for (int k = 0; k < now.conditions.size; k++) {
            trialFilling.fill(now, k);
            filledWithout[k] = trialFilling.ofConditions.filled;
        }
        knowsWithout = true;
    }

    private int readBuffer() {
        reader.begin();
        for (int i = 0; i < length; i++) {
            if (!reader.reads(buffer[i])) {
                return i;
            }
        }
        return length;
    }

    // ---- answers

    private int placeProperty(int place, int what) {
        switch (what) {
            case 0: return now.values[place];
            case 1: return now.stays[place];
            case 2: return filling.bounds.least(place, ZERO);
            case 3: return filling.bounds.greatest(place, ZERO);
            case 4: return now.conditions.rowsWith(place);
            default: return now.editOf(place);
        }
    }

    private int conditionProperty(int k, int what) {
        switch (what) {
            case 0: return now.conditions.left[k];
            case 1: return now.conditions.right[k];
            case 2: return now.conditions.sign[k];
            case 3: return now.conditions.number[k];
            case 4: return now.conditions.strength[k];
            case 5: return filling.ofConditions.filledOne(k);
            case 6: return filling.ofConditions.margin[k];
            case 7: return filling.ofConditions.turn[k];
            case CULPRITS: return culpritsOf(k);
            default: return now.holds(k) ? 1 : 0;
        }
    }

    private int editProperty(int k, int what) {
        switch (what) {
            case 0: return now.edits.left[k];
            case 1: return now.edits.number[k];
            case 2: return now.edits.strength[k];
            case 3: return filling.ofEdits.filledOne(k);
            default: return filling.ofEdits.margin[k];
        }
    }

    private int countOf(int what) {
        switch (what) {
            case 0: return now.conditions.size;
            case 1: return Integer.bitCount(filling.ofConditions.filled);
            case 2: return now.edits.size;
            case 3: return Integer.bitCount(filling.ofEdits.filled);
            case 4: return history.size;
            case 5: return fixedPlaces();
            case 6: return conditionsThatHold();
            default: return sumOfValues();
        }
    }

    private int fixedPlaces() {
        int fixed = 0;
        for (int place = 0; place < PLACES; place++) {
            if (filling.bounds.width(place) == 0) {
                fixed++;
            }
        }
        return fixed;
    }

    private int conditionsThatHold() {
        int holding = 0;
        for (int k = 0; k < now.conditions.size; k++) {
            if (now.holds(k)) {
                holding++;
            }
        }
        return holding;
    }

    private int sumOfValues() {
        int sum = 0;
        for (int place = 0; place < PLACES; place++) {
            sum += now.values[place];
        }
        return sum;
    }

    private int placesNotAt(int value) {
        int places = 0;
        for (int place = 0; place < PLACES; place++) {
            if (now.values[place] != value) {
                places++;
            }
        }
        return places;
    }

    /** Asks for knowWithout before it, as each way to it has done: it calls no filling itself, to stay shallow. */
    private int culpritsOf(int k) {
        Outcome outcome = filling.ofConditions;
        if (outcome.filledOne(k) == 1) {
            return 0;
        }
        int culprits = 0;
        for (int c = 0; c < now.conditions.size; c++) {
            boolean may = outcome.filledOne(c) == 1 && outcome.turn[c] < outcome.turn[k];
            if (may && (filledWithout[c] >> k & 1) == 1) {
                culprits |= 1 << c;
            }
        }
        return culprits;
    }

    private int leastFillingStrength(int k) {
        trial.copyFrom(now);
        for (int strength = 0; strength <= MOST_STRENGTH; strength++) {
            trial.conditions.strength[k] = strength;
            trialFilling.fill(trial, NONE);
            if (trialFilling.ofConditions.filledOne(k) == 1) {
                return strength;
            }
        }
        return NONE;
    }

    // ---- the hash

    private static long mixed(long hash, int value) {
        return 31L * hash + value;
    }

    private long withPlaces(long before) {
        long hash = before;
        for (int place = 0; place < PLACES; place++) {
            for (int what = 0; what < PLACE_PROPERTIES; what++) {
                hash = mixed(hash, placeProperty(place, what));
            }
        }
        return hash;
    }

    private long withConditions(long before) {
        long hash = before;
        for (int k = 0; k < now.conditions.size; k++) {
            for (int what = 0; what < CONDITION_PROPERTIES; what++) {
                hash = mixed(hash, conditionProperty(k, what));
            }
            hash = mixed(hash, Integer.bitCount(filledWithout[k]));
            hash = mixed(hash, leastFillingStrength(k));
        }
        return hash;
    }

    private long withEdits(long before) {
        long hash = before;
        for (int k = 0; k < now.edits.size; k++) {
            for (int what = 0; what < EDIT_PROPERTIES; what++) {
                hash = mixed(hash, editProperty(k, what));
            }
        }
        return hash;
    }

    private long withWidest(long before) {
        long hash = before;
        for (int one = 0; one < PLACES; one++) {
            for (int other = 0; other < PLACES; other++) {
                hash = mixed(hash, filling.bounds.greatest(one, other));
            }
        }
        return hash;
    }

    private long withBuffer(long before) {
        long hash = mixed(before, length);
        for (int i = 0; i < length; i++) {
            hash = mixed(hash, buffer[i]);
        }
        return hash;
    }

    /**
     * The bits of a float from 0 to 1 that is 0 or at least 1 / 20000, as Float.floatToIntBits tells them, which
     * LANGUAGE.md leaves out. Each step is exact, since doubling and subtracting 1 lose no bits here.
     */
    private static int bitsOf(float value) {
        if (!(value > 0.0f)) {
            return 0;
        }
        float mantissa = value;
        int exponent = 127;
        for (int i = 0; i < 126 && mantissa < 1.0f; i++) {
            mantissa *= 2.0f;
            exponent--;
        }
        return exponent << 23 | (int) ((mantissa - 1.0f) * 8388608.0f);
    }

    /** Conditions or edits, a row each: an edit is the row of a condition that its place is equal to its wish. */
    private static final class Rules {
        final int[] left = new int[MOST_CONDITIONS];
        final int[] right = new int[MOST_CONDITIONS];
        final int[] sign = new int[MOST_CONDITIONS];
        final int[] number = new int[MOST_CONDITIONS];
        final int[] strength = new int[MOST_CONDITIONS];
        int size;

        void push(int newLeft, int newRight, int newSign, int newNumber, int newStrength) {
            if (size >= MOST_CONDITIONS) {
                return;
            }
            left[size] = newLeft;
            right[size] = newRight;
            sign[size] = newSign;
            number[size] = newNumber;
            strength[size] = newStrength;
            size++;
        }

        void pushRowOf(Rules other, int k) {
            push(other.left[k], other.right[k], other.sign[k], other.number[k], other.strength[k]);
        }

        void drop(int dropped) {
            int before = size;
            size = dropped;
            for (int k = dropped + 1; k < before; k++) {
                pushRowOf(this, k);
            }
        }

        void copyFrom(Rules other) {
            size = 0;
            for (int k = 0; k < other.size; k++) {
                pushRowOf(other, k);
            }
        }

        int rowsWith(int place) {
            int rows = 0;
            for (int k = 0; k < size; k++) {
                if (left[k] == place || right[k] == place) {
                    rows++;
                }
            }
            return rows;
        }

        int rightNode(int k) {
            return right[k] == NONE ? ZERO : right[k];
        }

        /** Whether the rule can hold where its difference goes from least to greatest. */
        boolean canHold(int k, int least, int greatest) {
            boolean lowEnough = sign[k] == AT_LEAST || least <= number[k];
            boolean highEnough = sign[k] == AT_MOST || greatest >= number[k];
            return lowEnough && highEnough;
        }

        /** By how much the rule narrows a difference that goes from least to greatest. */
        int narrowing(int k, int least, int greatest) {
            switch (sign[k]) {
                case AT_MOST: return greatest > number[k] ? greatest - number[k] : 0;
                case EQUAL: return greatest - least;
                default: return number[k] > least ? number[k] - least : 0;
            }
        }

        /** By how much the number lies beside the differences from least to greatest. */
        int missing(int k, int least, int greatest) {
            return number[k] < least ? least - number[k] : greatest - number[k];
        }
    }

    /** All that undo brings back: the places, the conditions and the edits. */
    private static final class Layout {
        final int[] values = new int[PLACES];
        final int[] stays = new int[PLACES];
        final Rules conditions = new Rules();
        final Rules edits = new Rules();

        Layout() {
            for (int place = 0; place < PLACES; place++) {
                stays[place] = FIRST_STAY;
            }
        }

        void copyFrom(Layout other) {
            for (int place = 0; place < PLACES; place++) {
                values[place] = other.values[place];
                stays[place] = other.stays[place];
            }
            conditions.copyFrom(other.conditions);
            edits.copyFrom(other.edits);
        }

        int editOf(int place) {
            for (int k = 0; k < edits.size; k++) {
                if (edits.left[k] == place) {
                    return k;
                }
            }
            return NONE;
        }

        /** Takes a fourth edit too, since ifEdited asks for one. */
        void wishFor(int place, int wish, int strength) {
            int k = editOf(place);
            if (k == NONE) {
                edits.push(place, NONE, EQUAL, wish, strength);
            } else {
                edits.number[k] = wish;
                edits.strength[k] = strength;
            }
        }

        boolean holds(int k) {
            int right = conditions.right[k];
            int difference = values[conditions.left[k]] - (right == NONE ? 0 : values[right]);
            return conditions.canHold(k, difference, difference);
        }
    }

    /** The saved states: rows that are used again in a ring, so that saving makes no objects. */
    private static final class History {
        private final Layout[] saved = new Layout[MOST_SAVED];
        private int next;
        int size;

        History() {
            for (int i = 0; i < MOST_SAVED; i++) {
                saved[i] = new Layout();
            }
        }

        void save(Layout layout) {
            saved[next].copyFrom(layout);
            next = (next + 1) % MOST_SAVED;
            size = Math.min(size + 1, MOST_SAVED);
        }

        void restore(Layout layout) {
            next = (next + MOST_SAVED - 1) % MOST_SAVED;
            size--;
            layout.copyFrom(saved[next]);
        }
    }

    /**
     * The greatest differences of all pairs of nodes. They are kept closed (no way round over other nodes is
     * tighter), so that each of them is reached by some values of all places, and one look tells what is possible.
     */
    private static final class Bounds {
        private final int[][] greatest = new int[NODES][NODES];

        Bounds() {
            open();
        }

        void open() {
            for (int one = 0; one < NODES; one++) {
                for (int other = 0; other < NODES; other++) {
                    boolean single = one == ZERO || other == ZERO;
                    greatest[one][other] = one == other ? 0 : single ? MOST_VALUE : 2 * MOST_VALUE;
                }
            }
        }

        void copyFrom(Bounds source) {
            for (int one = 0; one < NODES; one++) {
                for (int other = 0; other < NODES; other++) {
                    greatest[one][other] = source.greatest[one][other];
                }
            }
        }

        int greatest(int one, int other) {
            return greatest[one][other];
        }

        int least(int one, int other) {
            return -greatest[other][one];
        }

        int width(int place) {
            return greatest(place, ZERO) - least(place, ZERO);
        }

        /** Asks that the one minus the other is at most a number that is possible. */
        void limit(int one, int other, int most) {
            if (most >= greatest[one][other]) {
                return;
            }
            for (int from = 0; from < NODES; from++) {
                int way = greatest[from][one] + most;
                // Where the way to the other one is no shorter, no way over it is.
                boolean shorter = way < greatest[from][other];
                for (int to = 0; shorter && to < NODES; to++) {
                    int over = way + greatest[other][to];
                    greatest[from][to] = over < greatest[from][to] ? over : greatest[from][to];
                }
            }
        }
    }

    /** What a filling told of the conditions, or of the edits, by their numbers. */
    private static final class Outcome {
        /** As bits, by the numbers of those that are filled. */
        int filled;
        final int[] margin = new int[MOST_CONDITIONS];
        final int[] turn = new int[MOST_CONDITIONS];

        int filledOne(int k) {
            return filled >> k & 1;
        }
    }

    private static final class Filling {
        final Bounds bounds = new Bounds();
        final Outcome ofConditions = new Outcome();
        final Outcome ofEdits = new Outcome();
        private final Bounds rest = new Bounds();
        private int turns;

        /** Fills all edits and all conditions but the missing one, if it is not NONE. */
        void fill(Layout layout, int missing) {
            bounds.open();
            ofConditions.filled = 0;
            ofEdits.filled = 0;
            turns = 0;
            for (int strength = MOST_STRENGTH; strength >= 0; strength--) {
                for (int k = 0; k < layout.edits.size; k++) {
                    if (layout.edits.strength[k] == strength) {
                        fillOne(layout.edits, k, ofEdits);
                    }
                }
                for (int k = 0; k < layout.conditions.size; k++) {
                    if (layout.conditions.strength[k] == strength && k != missing) {
                        fillOne(layout.conditions, k, ofConditions);
                    }
                }
            }
        }

        private void fillOne(Rules rules, int k, Outcome outcome) {
            int left = rules.left[k];
            int right = rules.rightNode(k);
            int least = bounds.least(left, right);
            int greatest = bounds.greatest(left, right);
            outcome.turn[k] = turns;
            turns++;
            if (!rules.canHold(k, least, greatest)) {
                outcome.margin[k] = rules.missing(k, least, greatest);
                return;
            }
            outcome.filled |= 1 << k;
            outcome.margin[k] = rules.narrowing(k, least, greatest);
            if (rules.sign[k] != AT_LEAST) {
                bounds.limit(left, right, rules.number[k]);
            }
            if (rules.sign[k] != AT_MOST) {
                bounds.limit(right, left, -rules.number[k]);
            }
        }

        /** Settles a layout that has just been filled here. */
        void settle(Layout layout) {
            rest.copyFrom(bounds);
            for (int stay = MOST_STAY; stay >= 0; stay--) {
                for (int place = 0; place < PLACES; place++) {
                    if (layout.stays[place] == stay) {
                        settleOne(layout, place);
                    }
                }
            }
        }

        private void settleOne(Layout layout, int place) {
            int atLeast = Math.max(layout.values[place], rest.least(place, ZERO));
            int value = Math.min(atLeast, rest.greatest(place, ZERO));
            layout.values[place] = value;
            rest.limit(place, ZERO, value);
            rest.limit(ZERO, place, -value);
        }
    }

    /** Reads a text character by character, and collects its conditions. */
    private static final class TextReader {
        private static final int LEFT = 0;
        private static final int RIGHT_OR_SIGN = 1;
        private static final int RIGHT = 2;
        private static final int SIGN = 3;
        private static final int NUMBER = 4;
        private static final int NEGATIVE = 5;
        private static final int DIGITS = 6;
        private static final int NUMBER_END = 7;
        private static final int STRENGTH = 8;
        private static final int CONDITION_END = 9;

        final Rules read = new Rules();
        private int awaited;
        private int left;
        private int right;
        private int sign;
        private int number;
        private int factor;
        private int strength;

        void begin() {
            read.size = 0;
            awaited = LEFT;
        }

        /** Reads the next character; false if it is a syntax error. */
        boolean reads(int code) {
            switch (awaited) {
                case LEFT: return readsLeft(code);
                case RIGHT_OR_SIGN: return code == '-' ? goesOn(RIGHT) : readsSign(code);
                case RIGHT: return readsRight(code);
                case SIGN: return readsSign(code);
                case NUMBER: return readsNumber(code);
                case NEGATIVE: return code != '0' && readsDigit(code);
                case DIGITS: return readsDigit(code) || readsNumberEnd(code);
                case NUMBER_END: return readsNumberEnd(code);
                case STRENGTH: return readsStrength(code);
                default: return readsConditionEnd(code);
            }
        }

        /** Ends the text; false if it is not complete. */
        boolean ends() {
            boolean complete = awaited == DIGITS || awaited == NUMBER_END || awaited == CONDITION_END;
            return complete && readsConditionEnd(';');
        }

        private boolean goesOn(int next) {
            awaited = next;
            return true;
        }

        private static boolean isLetter(int code) {
            return isWithin(code, 'a', 'a' + PLACES - 1);
        }

        private boolean readsLeft(int code) {
            left = code - 'a';
            right = NONE;
            number = 0;
            factor = 1;
            strength = USUAL_STRENGTH;
            return isLetter(code) && goesOn(RIGHT_OR_SIGN);
        }

        private boolean readsRight(int code) {
            right = code - 'a';
            return isLetter(code) && right != left && goesOn(SIGN);
        }

        private boolean readsSign(int code) {
            // The characters '<', '=' and '>' stand side by side, as the signs do.
            sign = code - '<';
            return isWithin(sign, AT_MOST, AT_LEAST) && goesOn(NUMBER);
        }

        private boolean readsNumber(int code) {
            if (code == '-') {
                factor = -1;
                return goesOn(NEGATIVE);
            }
            return code == '0' ? goesOn(NUMBER_END) : readsDigit(code);
        }

        private boolean readsDigit(int code) {
            int longer = 10 * number + code - '0';
            if (!isWithin(code, '0', '9') || longer > MOST_NUMBER) {
                return false;
            }
            number = longer;
            return goesOn(DIGITS);
        }

        private boolean readsNumberEnd(int code) {
            return code == '!' ? goesOn(STRENGTH) : readsConditionEnd(code);
        }

        private boolean readsStrength(int code) {
            strength = code - '0';
            return isStrength(strength) && goesOn(CONDITION_END);
        }

        private boolean readsConditionEnd(int code) {
            if (code != ';') {
                return false;
            }
            read.push(left, right, sign, factor * number, strength);
            return goesOn(LEFT);
        }
    }
}
