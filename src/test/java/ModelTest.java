import java.util.Random;

/** Runs of calls, the same in each test run, on a StrengthLayout and on the model: all answers must agree. */
public final class ModelTest {
    private static final int RUNS = 240;
    private static final int CALLS = 60;
    private static final Checks CHECKS = new Checks("ModelTest");

    /** How the numbers of a run are drawn, so that it meets loose, tight and far conditions. */
    private static final int[] SPREADS = {3, 40, 700, 2000};

    private final Random random;
    private final int spread;
    private final int places;
    private final StrengthLayout layout = new StrengthLayout();
    private final LayoutModel model = new LayoutModel();
    private final StringBuilder told = new StringBuilder();

    private ModelTest(int run) {
        random = new Random(1000 + run);
        spread = SPREADS[run % SPREADS.length];
        places = run % 3 == 0 ? 10 : 4;
        told.append("run ").append(run).append(':');
    }

    public static void main(String[] args) {
        for (int run = 0; run < RUNS && !CHECKS.failed(); run++) {
            ModelTest test = new ModelTest(run);
            for (int call = 0; call < CALLS && !CHECKS.failed(); call++) {
                test.change();
                // Not after each change, so that the questions meet changes that no digest has looked at.
                if (test.random.nextInt(3) > 0) {
                    test.compare("digest()", test.layout::digest, test.model::digest);
                }
            }
        }
        CHECKS.end();
    }

    private static String outcome(Checks.Call call) {
        try {
            return Long.toString(call.answer());
        } catch (RuntimeException e) {
            return e.getClass().getSimpleName();
        }
    }

    private void compare(String call, Checks.Call got, Checks.Call want) {
        if (!call.equals("digest()")) {
            told.append(' ').append(call);
        }
        String answered = outcome(got);
        String due = outcome(want);
        CHECKS.due(answered.equals(due) ? "" : told + ": " + call + " answered " + answered + ", due is " + due,
                answered.equals(due) ? 0 : 1, 0);
    }

    // ---- arguments, now and then just outside of what is allowed

    private boolean odd() {
        return random.nextInt(60) == 0;
    }

    private int drawn(int least, int most) {
        if (odd()) {
            return random.nextBoolean() ? least - 1 : most + 1;
        }
        return least + random.nextInt(most - least + 1);
    }

    private int place() {
        return odd() ? drawn(0, 9) : random.nextInt(places);
    }

    private int number(int most) {
        int reach = Math.min(spread, most);
        return odd() ? (random.nextBoolean() ? 1 : -1) * (most + random.nextInt(2)) : drawn(-reach, reach);
    }

    private int row() {
        return drawn(0, Math.max(0, model.state.conditions.size() - 1));
    }

    private int strength() {
        return drawn(0, 3);
    }

    private int right(int left) {
        int right = random.nextInt(3) == 0 ? -1 : place();
        return right == left && !odd() ? -1 : right;
    }

    // ---- the calls

    private void change() {
        switch (random.nextInt(17)) {
            case 0, 1, 2, 3: add(); break;
            case 4: remove(); break;
            case 5: setStrength(); break;
            case 6: setNumber(); break;
            case 7: setStay(); break;
            case 8, 9: edit(); break;
            case 10: compare("endEdits()", layout::endEdits, model::endEdits); break;
            case 11: settleFrom(); break;
            case 12: texts(); break;
            case 13: compare("undo()", layout::undo, model::undo); break;
            case 14, 15: ask(); break;
            default: ifEdited(); break;
        }
    }

    private void add() {
        int left = place();
        int right = right(left);
        int sign = drawn(0, 2);
        int number = number(2000);
        int strength = strength();
        compare("add(" + left + ", " + right + ", " + sign + ", " + number + ", " + strength + ")",
                () -> layout.add(left, right, sign, number, strength),
                () -> model.add(left, right, sign, number, strength));
    }

    private void remove() {
        int k = row();
        compare("remove(" + k + ")", () -> layout.remove(k), () -> model.remove(k));
    }

    private void setStrength() {
        int k = row();
        int strength = strength();
        compare("setStrength(" + k + ", " + strength + ")",
                () -> layout.setStrength(k, strength), () -> model.setStrength(k, strength));
    }

    private void setNumber() {
        int k = row();
        int number = number(2000);
        compare("setNumber(" + k + ", " + number + ")",
                () -> layout.setNumber(k, number), () -> model.setNumber(k, number));
    }

    private void setStay() {
        int place = place();
        int stay = drawn(0, 9);
        compare("setStay(" + place + ", " + stay + ")",
                () -> layout.setStay(place, stay), () -> model.setStay(place, stay));
    }

    private void edit() {
        int place = place();
        int wish = number(1000);
        int strength = strength();
        compare("edit(" + place + ", " + wish + ", " + strength + ")",
                () -> layout.edit(place, wish, strength), () -> model.edit(place, wish, strength));
    }

    private void settleFrom() {
        int value = number(1000);
        compare("settleFrom(" + value + ")", () -> layout.settleFrom(value), () -> model.settleFrom(value));
    }

    private void ifEdited() {
        int place = place();
        int wish = number(1000);
        int strength = strength();
        int asked = place();
        compare("ifEdited(" + place + ", " + wish + ", " + strength + ", " + asked + ")",
                () -> layout.ifEdited(place, wish, strength, asked),
                () -> model.ifEdited(place, wish, strength, asked));
    }

    private void texts() {
        if (random.nextInt(3) == 0) {
            compare("clearBuffer()", layout::clearBuffer, model::clearBuffer);
        }
        int conditions = random.nextInt(4);
        for (int i = 0; i < conditions; i++) {
            appendAll(conditionText());
            appendAll(odd() ? "" : i < conditions - 1 ? ";" : "");
        }
        compare("firstError()", layout::firstError, model::firstError);
        compare("load()", layout::load, model::load);
    }

    private String conditionText() {
        int left = random.nextInt(places);
        int right = right(left);
        int number = random.nextInt(8) == 0 ? 0 : number(2000);
        StringBuilder text = new StringBuilder().append((char) ('a' + left));
        if (right >= 0) {
            text.append('-').append((char) ('a' + right));
        }
        text.append("<=>".charAt(random.nextInt(3))).append(number);
        if (odd()) {
            text.append(random.nextInt(10));
        }
        if (random.nextBoolean()) {
            text.append('!').append(strength());
        }
        if (odd()) {
            text.setCharAt(random.nextInt(text.length()), "abk-<=>!;0129".charAt(random.nextInt(13)));
        }
        return text.toString();
    }

    private void appendAll(String text) {
        for (char c : text.toCharArray()) {
            int code = random.nextInt(200) == 0 ? drawn(33, 126) : c;
            compare("append(" + code + ")", () -> layout.append(code), () -> model.append(code));
        }
    }

    private void ask() {
        int place = place();
        int other = place();
        int k = row();
        int e = drawn(0, 2);
        int what = drawn(0, 9);
        compare("place(" + place + ", " + what + ")",
                () -> layout.place(place, what), () -> model.place(place, what));
        compare("condition(" + k + ", " + what + ")",
                () -> layout.condition(k, what), () -> model.condition(k, what));
        compare("edited(" + e + ", " + what + ")", () -> layout.edited(e, what), () -> model.edited(e, what));
        compare("widest(" + place + ", " + other + ")",
                () -> layout.widest(place, other), () -> model.widest(place, other));
        compare("count(" + what + ")", () -> layout.count(what), () -> model.count(what));
        compare("ifRemoved(" + k + ")", () -> layout.ifRemoved(k), () -> model.ifRemoved(k));
        compare("neededStrength(" + k + ")", () -> layout.neededStrength(k), () -> model.neededStrength(k));
        compare("freedom()", () -> Float.floatToIntBits(layout.freedom()),
                () -> Float.floatToIntBits(model.freedom()));
    }
}
