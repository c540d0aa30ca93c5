import java.util.ArrayDeque;
import java.util.ArrayList;
import java.util.Deque;
import java.util.List;
import java.util.regex.Pattern;

/**
 * The document said again in another way, slow and without state that is kept between calls: ranges by narrowing
 * from -1000 to 1000 until nothing changes, differences by bisection, texts by a regular expression. Its answers
 * are compared with those of StrengthLayout.
 */
final class LayoutModel {
    static final int NONE = -1;

    record Rule(int left, int right, int sign, int number, int strength) {
        boolean holds(int[] values) {
            int difference = values[left] - (right == NONE ? 0 : values[right]);
            return sign == 0 ? difference <= number : sign == 1 ? difference == number : difference >= number;
        }

        Rule withStrength(int other) {
            return new Rule(left, right, sign, number, other);
        }

        Rule withNumber(int other) {
            return new Rule(left, right, sign, other, strength);
        }
    }

    /** By the numbers of the conditions or edits. */
    static final class Filled {
        final List<Rule> rules = new ArrayList<>();
        final boolean[] condition = new boolean[16];
        final int[] conditionTurn = new int[16];
        /** How many rules were filled before. */
        final int[] conditionBefore = new int[16];
        final boolean[] edit = new boolean[4];
        final int[] editBefore = new int[4];

        int conditions() {
            int filled = 0;
            for (boolean one : condition) {
                filled += one ? 1 : 0;
            }
            return filled;
        }
    }

    static final class State {
        int[] values = new int[10];
        int[] stays = {5, 5, 5, 5, 5, 5, 5, 5, 5, 5};
        List<Rule> conditions = new ArrayList<>();
        List<Rule> edits = new ArrayList<>();

        State copy() {
            State copy = new State();
            copy.values = values.clone();
            copy.stays = stays.clone();
            copy.conditions = new ArrayList<>(conditions);
            copy.edits = new ArrayList<>(edits);
            return copy;
        }
    }

    State state = new State();
    final Deque<State> saved = new ArrayDeque<>();
    String buffer = "";

    // ---- what is possible

    /** The least and the greatest values with which all rules hold, null if there are none. */
    static int[][] ranges(List<Rule> rules) {
        int[] low = new int[10];
        int[] high = new int[10];
        java.util.Arrays.fill(low, -1000);
        java.util.Arrays.fill(high, 1000);
        boolean changed = true;
        while (changed) {
            changed = false;
            for (Rule rule : rules) {
                changed |= rule.sign != 2 && atMost(rule.left, rule.right, rule.number, low, high);
                changed |= rule.sign != 0 && atMost(rule.right, rule.left, -rule.number, low, high);
            }
            for (int p = 0; p < 10; p++) {
                if (low[p] > high[p]) {
                    return null;
                }
            }
        }
        return new int[][] {low, high};
    }

    private static boolean atMost(int one, int other, int number, int[] low, int[] high) {
        boolean changed = false;
        int otherHigh = other == NONE ? 0 : high[other];
        int oneLow = one == NONE ? 0 : low[one];
        if (one != NONE && otherHigh + number < high[one]) {
            high[one] = otherHigh + number;
            changed = true;
        }
        if (other != NONE && oneLow - number > low[other]) {
            low[other] = oneLow - number;
            changed = true;
        }
        return changed;
    }

    static boolean possible(List<Rule> rules, Rule added) {
        List<Rule> all = new ArrayList<>(rules);
        all.add(added);
        return ranges(all) != null;
    }

    static int greatest(List<Rule> rules, int one, int other) {
        if (one == other) {
            return 0;
        }
        int yes = -2001;
        int no = 2001;
        while (no - yes > 1) {
            int middle = Math.floorDiv(yes + no, 2);
            if (possible(rules, new Rule(one, other, 2, middle, 0))) {
                yes = middle;
            } else {
                no = middle;
            }
        }
        return yes;
    }

    static int least(List<Rule> rules, int one, int other) {
        if (other == NONE) {
            return ranges(rules)[0][one];
        }
        return -greatest(rules, other, one);
    }

    // ---- filling and settling

    static Filled fill(State state) {
        Filled filled = new Filled();
        int turn = 0;
        for (int strength = 3; strength >= 0; strength--) {
            for (int k = 0; k < state.edits.size(); k++) {
                Rule rule = state.edits.get(k);
                if (rule.strength == strength) {
                    turn++;
                    filled.editBefore[k] = filled.rules.size();
                    filled.edit[k] = possible(filled.rules, rule);
                    if (filled.edit[k]) {
                        filled.rules.add(rule);
                    }
                }
            }
            for (int k = 0; k < state.conditions.size(); k++) {
                Rule rule = state.conditions.get(k);
                if (rule.strength == strength) {
                    filled.conditionTurn[k] = turn++;
                    filled.conditionBefore[k] = filled.rules.size();
                    filled.condition[k] = possible(filled.rules, rule);
                    if (filled.condition[k]) {
                        filled.rules.add(rule);
                    }
                }
            }
        }
        return filled;
    }

    private static int margin(List<Rule> before, Rule rule, boolean filled) {
        int l = least(before, rule.left, rule.right);
        int h = rule.right == NONE ? ranges(before)[1][rule.left] : greatest(before, rule.left, rule.right);
        if (!filled) {
            return rule.number < l ? l - rule.number : h - rule.number;
        }
        if (rule.sign == 1) {
            return h - l;
        }
        return Math.max(0, rule.sign == 0 ? h - rule.number : rule.number - l);
    }

    private int conditionMargin(Filled filled, int k) {
        List<Rule> before = filled.rules.subList(0, filled.conditionBefore[k]);
        return margin(before, state.conditions.get(k), filled.condition[k]);
    }

    private int editMargin(Filled filled, int k) {
        List<Rule> before = filled.rules.subList(0, filled.editBefore[k]);
        return margin(before, state.edits.get(k), filled.edit[k]);
    }

    static void settle(State state) {
        List<Rule> rules = new ArrayList<>(fill(state).rules);
        for (int stay = 9; stay >= 0; stay--) {
            for (int p = 0; p < 10; p++) {
                if (state.stays[p] == stay) {
                    int[][] ranges = ranges(rules);
                    int value = state.values[p];
                    value = value < ranges[0][p] ? ranges[0][p] : value > ranges[1][p] ? ranges[1][p] : value;
                    state.values[p] = value;
                    rules.add(new Rule(p, NONE, 1, value, 0));
                }
            }
        }
    }

    private void save() {
        saved.addLast(state.copy());
        if (saved.size() > 8) {
            saved.removeFirst();
        }
    }

    // ---- what calls ask

    private static void index(boolean given) {
        if (!given) {
            throw new IndexOutOfBoundsException();
        }
    }

    private static void argument(boolean given) {
        if (!given) {
            throw new IllegalArgumentException();
        }
    }

    private static void room(boolean given) {
        if (!given) {
            throw new IllegalStateException();
        }
    }

    private static boolean in(int value, int least, int most) {
        return value >= least && value <= most;
    }

    private void indexOfCondition(int k) {
        index(in(k, 0, state.conditions.size() - 1));
    }

    // ---- the face

    int add(int left, int right, int sign, int number, int strength) {
        index(in(left, 0, 9) && in(right, -1, 9) && left != right);
        argument(in(sign, 0, 2) && in(number, -2000, 2000) && in(strength, 0, 3));
        room(state.conditions.size() < 16);
        save();
        state.conditions.add(new Rule(left, right, sign, number, strength));
        settle(state);
        return state.conditions.size() - 1;
    }

    int remove(int k) {
        indexOfCondition(k);
        int was = fill(state).condition[k] ? 1 : 0;
        save();
        state.conditions.remove(k);
        settle(state);
        return was;
    }

    int setStrength(int k, int strength) {
        indexOfCondition(k);
        argument(in(strength, 0, 3));
        save();
        Rule rule = state.conditions.get(k);
        state.conditions.set(k, rule.withStrength(strength));
        settle(state);
        return rule.strength;
    }

    int setNumber(int k, int number) {
        indexOfCondition(k);
        argument(in(number, -2000, 2000));
        save();
        Rule rule = state.conditions.get(k);
        state.conditions.set(k, rule.withNumber(number));
        settle(state);
        return rule.number;
    }

    int setStay(int place, int stay) {
        index(in(place, 0, 9));
        argument(in(stay, 0, 9));
        save();
        int previous = state.stays[place];
        state.stays[place] = stay;
        settle(state);
        return previous;
    }

    static int editOf(State state, int place) {
        for (int k = 0; k < state.edits.size(); k++) {
            if (state.edits.get(k).left == place) {
                return k;
            }
        }
        return NONE;
    }

    private static void wish(State state, int place, int wish, int strength) {
        Rule edit = new Rule(place, NONE, 1, wish, strength);
        int k = editOf(state, place);
        if (k == NONE) {
            state.edits.add(edit);
        } else {
            state.edits.set(k, edit);
        }
    }

    int edit(int place, int wish, int strength) {
        index(in(place, 0, 9));
        argument(in(wish, -1000, 1000) && in(strength, 0, 3));
        room(editOf(state, place) != NONE || state.edits.size() < 3);
        save();
        wish(state, place, wish, strength);
        settle(state);
        return state.values[place];
    }

    int endEdits() {
        save();
        int were = state.edits.size();
        state.edits.clear();
        return were;
    }

    int settleFrom(int value) {
        argument(in(value, -1000, 1000));
        save();
        java.util.Arrays.fill(state.values, value);
        settle(state);
        int others = 0;
        for (int each : state.values) {
            others += each == value ? 0 : 1;
        }
        return others;
    }

    int append(int code) {
        argument(in(code, 33, 126));
        room(buffer.length() < 60);
        buffer += (char) code;
        return buffer.length();
    }

    int clearBuffer() {
        int had = buffer.length();
        buffer = "";
        return had;
    }

    private static final String CONDITION =
            "([a-j])(-(?!\\%d)[a-j])?[<=>](0|-?([1-9][0-9]{0,2}|1[0-9]{3}|2000))(![0-3])?";
    private static final Pattern TEXT =
            Pattern.compile("(" + CONDITION.formatted(2) + ";)*" + CONDITION.formatted(7));

    static boolean isText(String text) {
        return TEXT.matcher(text).matches();
    }

    /** Each beginning of a text can be made complete by one of these ends. */
    private static boolean isBeginning(String text) {
        for (String end : new String[] {"", "0", "1", "<0", "a<0", "b<0"}) {
            if (isText(text + end)) {
                return true;
            }
        }
        return false;
    }

    int firstError() {
        for (int i = 0; i < buffer.length(); i++) {
            if (!isBeginning(buffer.substring(0, i + 1))) {
                return i;
            }
        }
        return buffer.length();
    }

    static Rule ruleOf(String text) {
        int left = text.charAt(0) - 'a';
        int at = 1;
        int right = NONE;
        if (text.charAt(1) == '-') {
            right = text.charAt(2) - 'a';
            at = 3;
        }
        int sign = "<=>".indexOf(text.charAt(at));
        int mark = text.indexOf('!');
        int number = Integer.parseInt(text.substring(at + 1, mark < 0 ? text.length() : mark));
        return new Rule(left, right, sign, number, mark < 0 ? 1 : text.charAt(mark + 1) - '0');
    }

    int load() {
        argument(isText(buffer));
        String[] texts = buffer.split(";");
        room(state.conditions.size() + texts.length <= 16);
        save();
        for (String text : texts) {
            state.conditions.add(ruleOf(text));
        }
        settle(state);
        buffer = "";
        return state.conditions.size();
    }

    int undo() {
        room(!saved.isEmpty());
        state = saved.removeLast();
        return saved.size();
    }

    int place(int place, int what) {
        index(in(place, 0, 9));
        argument(in(what, 0, 5));
        return switch (what) {
            case 0 -> state.values[place];
            case 1 -> state.stays[place];
            case 2 -> ranges(fill(state).rules)[0][place];
            case 3 -> ranges(fill(state).rules)[1][place];
            case 4 -> (int) state.conditions.stream().filter(r -> r.left == place || r.right == place).count();
            default -> editOf(state, place);
        };
    }

    int condition(int k, int what) {
        indexOfCondition(k);
        argument(in(what, 0, 9));
        Rule rule = state.conditions.get(k);
        return switch (what) {
            case 0 -> rule.left;
            case 1 -> rule.right;
            case 2 -> rule.sign;
            case 3 -> rule.number;
            case 4 -> rule.strength;
            case 5 -> fill(state).condition[k] ? 1 : 0;
            case 6 -> conditionMargin(fill(state), k);
            case 7 -> fill(state).conditionTurn[k];
            case 8 -> culprits(k);
            default -> rule.holds(state.values) ? 1 : 0;
        };
    }

    private int culprits(int k) {
        Filled filled = fill(state);
        int mask = 0;
        for (int c = 0; c < state.conditions.size() && !filled.condition[k]; c++) {
            if (filled.condition[c] && filled.conditionTurn[c] < filled.conditionTurn[k]) {
                State without = state.copy();
                without.conditions.remove(c);
                mask |= fill(without).condition[c < k ? k - 1 : k] ? 1 << c : 0;
            }
        }
        return mask;
    }

    int edited(int k, int what) {
        index(in(k, 0, state.edits.size() - 1));
        argument(in(what, 0, 4));
        Rule edit = state.edits.get(k);
        return switch (what) {
            case 0 -> edit.left;
            case 1 -> edit.number;
            case 2 -> edit.strength;
            case 3 -> fill(state).edit[k] ? 1 : 0;
            default -> editMargin(fill(state), k);
        };
    }

    int widest(int one, int other) {
        index(in(one, 0, 9) && in(other, 0, 9));
        return greatest(fill(state).rules, one, other);
    }

    int count(int what) {
        argument(in(what, 0, 7));
        Filled filled = fill(state);
        int[][] ranges = ranges(filled.rules);
        int counted = 0;
        switch (what) {
            case 0: return state.conditions.size();
            case 1: return filled.conditions();
            case 2: return state.edits.size();
            case 3:
                for (boolean one : filled.edit) {
                    counted += one ? 1 : 0;
                }
                return counted;
            case 4: return saved.size();
            case 5:
                for (int p = 0; p < 10; p++) {
                    counted += ranges[0][p] == ranges[1][p] ? 1 : 0;
                }
                return counted;
            case 6:
                return (int) state.conditions.stream().filter(r -> r.holds(state.values)).count();
            default:
                return java.util.stream.IntStream.of(state.values).sum();
        }
    }

    int ifEdited(int place, int wish, int strength, int asked) {
        index(in(place, 0, 9) && in(asked, 0, 9));
        argument(in(wish, -1000, 1000) && in(strength, 0, 3));
        State would = state.copy();
        wish(would, place, wish, strength);
        settle(would);
        return would.values[asked];
    }

    int ifRemoved(int k) {
        indexOfCondition(k);
        State would = state.copy();
        would.conditions.remove(k);
        return fill(would).conditions();
    }

    int neededStrength(int k) {
        indexOfCondition(k);
        for (int strength = 0; strength <= 3; strength++) {
            State would = state.copy();
            would.conditions.set(k, would.conditions.get(k).withStrength(strength));
            if (fill(would).condition[k]) {
                return strength;
            }
        }
        return NONE;
    }

    float freedom() {
        int[][] ranges = ranges(fill(state).rules);
        int sum = 0;
        for (int p = 0; p < 10; p++) {
            sum += ranges[1][p] - ranges[0][p];
        }
        return (float) sum / 20000.0f;
    }

    long digest() {
        List<Integer> list = new ArrayList<>();
        for (int what = 0; what <= 7; what++) {
            list.add(count(what));
        }
        for (int p = 0; p < 10; p++) {
            for (int what = 0; what <= 5; what++) {
                list.add(place(p, what));
            }
        }
        for (int k = 0; k < state.conditions.size(); k++) {
            for (int what = 0; what <= 9; what++) {
                list.add(condition(k, what));
            }
            list.add(ifRemoved(k));
            list.add(neededStrength(k));
        }
        for (int k = 0; k < state.edits.size(); k++) {
            for (int what = 0; what <= 4; what++) {
                list.add(edited(k, what));
            }
        }
        for (int one = 0; one < 10; one++) {
            for (int other = 0; other < 10; other++) {
                list.add(widest(one, other));
            }
        }
        list.add(Float.floatToIntBits(freedom()));
        list.add(buffer.length());
        buffer.chars().forEach(list::add);
        long hash = 2129;
        for (int v : list) {
            hash = 31 * hash + v;
        }
        return hash;
    }
}
