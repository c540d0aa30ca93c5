/** Each promise by calls whose answers were worked out by hand from the document. */
public final class PromiseTest {
    private static final Checks CHECKS = new Checks("PromiseTest");
    private static final Class<IndexOutOfBoundsException> INDEX = IndexOutOfBoundsException.class;
    private static final Class<IllegalArgumentException> ARGUMENT = IllegalArgumentException.class;
    private static final Class<IllegalStateException> STATE = IllegalStateException.class;

    private static final int FAR = Integer.MAX_VALUE;
    private static final int FAR_BELOW = Integer.MIN_VALUE;

    public static void main(String[] args) {
        newObject();
        add();
        addRefuses();
        remove();
        setStrength();
        setNumber();
        setStay();
        settling();
        edit();
        editRefuses();
        endEdits();
        settleFrom();
        append();
        clearBuffer();
        firstError();
        load();
        loadRefuses();
        undo();
        place();
        condition();
        margins();
        culprits();
        edited();
        widest();
        count();
        ifEdited();
        ifRemoved();
        neededStrength();
        freedom();
        digest();
        longRun();
        CHECKS.end();
    }

    private static void due(String call, long got, long want) {
        CHECKS.due(call, got, want);
    }

    private static void dueValues(String when, StrengthLayout x, int... values) {
        for (int p = 0; p < values.length; p++) {
            due(when + ": place(" + p + ", 0)", x.place(p, 0), values[p]);
        }
    }

    private static void dueCounts(String when, StrengthLayout x, int... counts) {
        for (int what = 0; what < counts.length; what++) {
            due(when + ": count(" + what + ")", x.count(what), counts[what]);
        }
    }

    private static void appendAll(StrengthLayout x, String text) {
        for (int i = 0; i < text.length(); i++) {
            x.append(text.charAt(i));
        }
    }

    private static int firstErrorOf(String text) {
        StrengthLayout x = new StrengthLayout();
        appendAll(x, text);
        return x.firstError();
    }

    /** a >= 10 (!3), b - a >= 20 (!2), b <= 25 (!1, unfilled), c - b = 5 (!1), d = -40 (!0). */
    private static StrengthLayout chain() {
        StrengthLayout x = new StrengthLayout();
        x.add(0, -1, 2, 10, 3);
        x.add(1, 0, 2, 20, 2);
        x.add(1, -1, 0, 25, 1);
        x.add(2, 1, 1, 5, 1);
        x.add(3, -1, 1, -40, 0);
        return x;
    }

    private static StrengthLayout full() {
        StrengthLayout x = new StrengthLayout();
        for (int k = 0; k < 16; k++) {
            due("add to " + k, x.add(k % 10, -1, 2, -1000 + k, 1), k);
        }
        return x;
    }

    // ---- promise 1

    private static void newObject() {
        StrengthLayout x = new StrengthLayout();
        due("NONE", StrengthLayout.NONE, -1);
        dueCounts("new", x, 0, 0, 0, 0, 0, 0, 0, 0);
        for (int p = 0; p < 10; p++) {
            due("new value", x.place(p, 0), 0);
            due("new stay", x.place(p, 1), 5);
            due("new least", x.place(p, 2), -1000);
            due("new greatest", x.place(p, 3), 1000);
            due("new conditions with it", x.place(p, 4), 0);
            due("new edit of it", x.place(p, 5), StrengthLayout.NONE);
        }
        due("new firstError()", x.firstError(), 0);
        due("new clearBuffer()", x.clearBuffer(), 0);
        CHECKS.refused(x, "undo() of a new one", STATE, x::undo);
        StrengthLayout other = chain();
        due("one object does not change another", new StrengthLayout().digest(), x.digest());
        due("another one differs", other.count(0), 5);
    }

    // ---- promise 2

    private static void add() {
        StrengthLayout x = new StrengthLayout();
        due("add a>=10", x.add(0, -1, 2, 10, 3), 0);
        dueValues("a>=10", x, 10, 0);
        due("add b-a>=20", x.add(1, 0, 2, 20, 2), 1);
        dueValues("b-a>=20", x, 10, 30);
        due("add b<=25", x.add(1, -1, 0, 25, 1), 2);
        dueValues("b<=25 is unfilled", x, 10, 30);
        due("add c-b=5", x.add(2, 1, 1, 5, 1), 3);
        dueValues("c-b=5", x, 10, 30, 35, 0);
        due("each add is undoable", x.count(4), 4);
        due("a stronger one", x.add(1, -1, 0, 5, 3), 4);
        dueValues("b<=5!3: b-a>=20 falls, a>=10 stays", x, 10, 5, 10);
        due("b-a>=20", x.condition(1, 5), 0);
        due("b<=25", x.condition(2, 5), 1);
        StrengthLayout edges = new StrengthLayout();
        due("add the least number", edges.add(9, 0, 0, -2000, 0), 0);
        dueValues("j-a<=-2000", edges, 1000);
        due("j", edges.place(9, 0), -1000);
        due("add the greatest number", edges.add(0, 9, 2, 2000, 3), 1);
        due("both are filled", edges.count(1), 2);
        StrengthLayout none = new StrengthLayout();
        none.add(0, -1, 1, 1001, 3);
        due("a=1001 cannot hold", none.condition(0, 5), 0);
        none.add(0, -1, 1, 1000, 3);
        dueValues("a=1000", none, 1000);
    }

    private static void addRefuses() {
        StrengthLayout x = full();
        due("16 conditions", x.count(0), 16);
        for (int left : new int[] {-1, 10, FAR, FAR_BELOW}) {
            CHECKS.refused(x, "add left " + left, INDEX, () -> x.add(left, 0, 9, 9999, 9));
        }
        for (int right : new int[] {4, 10, -2, FAR, FAR_BELOW}) {
            CHECKS.refused(x, "add right " + right, INDEX, () -> x.add(4, right, 9, 9999, 9));
        }
        for (int sign : new int[] {-1, 3, FAR, FAR_BELOW}) {
            CHECKS.refused(x, "add sign " + sign, ARGUMENT, () -> x.add(0, 1, sign, 0, 0));
        }
        for (int number : new int[] {-2001, 2001, FAR, FAR_BELOW}) {
            CHECKS.refused(x, "add number " + number, ARGUMENT, () -> x.add(0, 1, 0, number, 0));
        }
        for (int strength : new int[] {-1, 4, FAR, FAR_BELOW}) {
            CHECKS.refused(x, "add strength " + strength, ARGUMENT, () -> x.add(0, 1, 0, 0, strength));
        }
        CHECKS.refused(x, "add a 17th", STATE, () -> x.add(0, 1, 0, 0, 0));
        x.remove(3);
        due("add after a remove", x.add(0, 1, 0, 0, 0), 15);
    }

    // ---- promise 3

    private static void remove() {
        StrengthLayout x = chain();
        int states = x.count(4);
        due("remove an unfilled one", x.remove(2), 0);
        due("it is undoable", x.count(4), states + 1);
        due("the later ones move", x.condition(2, 0), 2);
        due("the last one moves", x.condition(3, 3), -40);
        dueValues("values stay near", x, 10, 30, 35, -40, 0);
        due("remove a filled one", x.remove(0), 1);
        due("the range opens", x.place(0, 2), -1000);
        dueValues("no need to move", x, 10, 30, 35, -40);
        StrengthLayout y = chain();
        due("remove a>=10", y.remove(0), 1);
        due("b<=25 is filled then", y.condition(1, 5), 1);
        dueValues("a goes down to 5", y, 5, 25, 30, -40);
        for (int k : new int[] {-1, 4, FAR, FAR_BELOW}) {
            CHECKS.refused(y, "remove " + k, INDEX, () -> y.remove(k));
        }
    }

    // ---- promise 4

    private static void setStrength() {
        StrengthLayout x = chain();
        int states = x.count(4);
        due("setStrength", x.setStrength(2, 3), 1);
        due("it is undoable", x.count(4), states + 1);
        due("the strength", x.condition(2, 4), 3);
        due("b<=25 is filled", x.condition(2, 5), 1);
        due("b-a>=20 is not", x.condition(1, 5), 0);
        dueValues("b has settled", x, 10, 25, 30, -40);
        due("setStrength to the same", x.setStrength(2, 3), 3);
        due("it is undoable too", x.count(4), states + 2);
        due("setStrength 0", x.setStrength(0, 0), 3);
        for (int k : new int[] {-1, 5, FAR, FAR_BELOW}) {
            CHECKS.refused(x, "setStrength of " + k, INDEX, () -> x.setStrength(k, 4));
        }
        for (int strength : new int[] {-1, 4, FAR, FAR_BELOW}) {
            CHECKS.refused(x, "setStrength " + strength, ARGUMENT, () -> x.setStrength(0, strength));
        }
    }

    // ---- promise 5

    private static void setNumber() {
        StrengthLayout x = chain();
        int states = x.count(4);
        due("setNumber", x.setNumber(2, 30), 25);
        due("it is undoable", x.count(4), states + 1);
        due("the number", x.condition(2, 3), 30);
        due("b<=30 is filled", x.condition(2, 5), 1);
        due("a<=10 then", x.place(0, 3), 10);
        due("setNumber -2000", x.setNumber(4, -2000), -40);
        due("d=-2000 is unfilled", x.condition(4, 5), 0);
        due("setNumber 2000", x.setNumber(4, 2000), -2000);
        for (int k : new int[] {-1, 5, FAR, FAR_BELOW}) {
            CHECKS.refused(x, "setNumber of " + k, INDEX, () -> x.setNumber(k, 2001));
        }
        for (int number : new int[] {-2001, 2001, FAR, FAR_BELOW}) {
            CHECKS.refused(x, "setNumber " + number, ARGUMENT, () -> x.setNumber(0, number));
        }
    }

    // ---- promise 6, and how places settle

    private static void setStay() {
        StrengthLayout x = new StrengthLayout();
        due("setStay", x.setStay(1, 9), 5);
        due("it is undoable", x.count(4), 1);
        due("the stay", x.place(1, 1), 9);
        due("setStay 0", x.setStay(1, 0), 9);
        due("setStay 9 again", x.setStay(1, 9), 0);
        for (int place : new int[] {-1, 10, FAR, FAR_BELOW}) {
            CHECKS.refused(x, "setStay of " + place, INDEX, () -> x.setStay(place, 10));
        }
        for (int stay : new int[] {-1, 10, FAR, FAR_BELOW}) {
            CHECKS.refused(x, "setStay " + stay, ARGUMENT, () -> x.setStay(0, stay));
        }
        StrengthLayout y = new StrengthLayout();
        y.edit(0, 7, 3);
        y.endEdits();
        y.add(0, -1, 1, 3, 0);
        due("a=3", y.place(0, 0), 3);
        due("setStay settles, from the values of now", y.setStay(0, 5), 5);
        dueValues("a stays", y, 3);
    }

    private static void settling() {
        StrengthLayout byNumber = new StrengthLayout();
        byNumber.add(0, 1, 1, 10, 1);
        dueValues("of the same stay the first place goes first", byNumber, 0, -10);
        StrengthLayout byStay = new StrengthLayout();
        byStay.setStay(1, 6);
        byStay.add(0, 1, 1, 10, 1);
        dueValues("the greater stay goes first", byStay, 10, 0);
        StrengthLayout last = new StrengthLayout();
        last.setStay(0, 0);
        last.add(0, 1, 2, 10, 1);
        last.add(0, 2, 2, 20, 1);
        dueValues("the smaller stay gives way", last, 20, 0, 0);
        StrengthLayout near = new StrengthLayout();
        near.add(0, 1, 0, -1995, 1);
        dueValues("as near as the others allow", near, -995, 1000);
    }

    // ---- promise 7

    private static void edit() {
        StrengthLayout x = chain();
        int states = x.count(4);
        due("edit a to 50", x.edit(0, 50, 1), 50);
        due("it is undoable", x.count(4), states + 1);
        dueValues("a=50 moves b and c", x, 50, 70, 75, -40);
        due("edit a to 5 is unfilled", x.edit(0, 5, 1), 50);
        due("the edit keeps its number", x.place(0, 5), 0);
        due("one edit", x.count(2), 1);
        due("it is not filled", x.count(3), 0);
        due("edit b to 24, of b<=25's strength", x.edit(1, 24, 1), 70);
        due("of the same strength edits go first, but a>=10 and b-a>=20 are stronger", x.edited(1, 3), 0);
        due("the edit of d before d=-40", x.edit(3, 8, 0), 8);
        due("d=-40", x.condition(4, 5), 0);
        due("the edits count in the order", x.condition(4, 7), 7);
        due("the wish of the first edit changes with 3 edits", x.edit(0, 40, 3), 40);
        due("three edits", x.count(2), 3);
        due("edit 0 has strength 3", x.edited(0, 2), 3);
        StrengthLayout y = new StrengthLayout();
        due("edit to 1000", y.edit(9, 1000, 0), 1000);
        due("edit to -1000", y.edit(9, -1000, 3), -1000);
        due("an edit is no condition", y.count(0), 0);
        due("an edit is no condition with the place", y.place(9, 4), 0);
        due("an edit narrows the range", y.place(9, 3), -1000);
        due("an edit is settled with", y.settleFrom(4), 1);
        due("the wish holds", y.place(9, 0), -1000);
    }

    private static void editRefuses() {
        StrengthLayout x = new StrengthLayout();
        x.edit(0, 1, 1);
        x.edit(1, 1, 1);
        x.edit(2, 1, 1);
        for (int place : new int[] {-1, 10, FAR, FAR_BELOW}) {
            CHECKS.refused(x, "edit of " + place, INDEX, () -> x.edit(place, 1001, 4));
        }
        for (int wish : new int[] {-1001, 1001, FAR, FAR_BELOW}) {
            CHECKS.refused(x, "edit to " + wish, ARGUMENT, () -> x.edit(3, wish, 0));
        }
        for (int strength : new int[] {-1, 4, FAR, FAR_BELOW}) {
            CHECKS.refused(x, "edit strength " + strength, ARGUMENT, () -> x.edit(3, 0, strength));
        }
        CHECKS.refused(x, "a 4th edit", STATE, () -> x.edit(3, 0, 0));
        due("an edit of one of the three", x.edit(2, 9, 0), 9);
    }

    // ---- promise 8

    private static void endEdits() {
        StrengthLayout x = new StrengthLayout();
        due("endEdits without edits", x.endEdits(), 0);
        due("it is undoable too", x.count(4), 1);
        x.add(0, -1, 0, 5, 1);
        due("edit", x.edit(0, 20, 1), 20);
        due("a<=5 is unfilled", x.condition(0, 5), 0);
        due("endEdits", x.endEdits(), 1);
        due("no edits", x.count(2), 0);
        due("filling is done anew", x.condition(0, 5), 1);
        due("the range is that of a<=5", x.place(0, 3), 5);
        dueValues("but the value stays as it is", x, 20);
        due("a<=5 does not hold", x.condition(0, 9), 0);
        due("undo brings the edit back", x.undo(), 3);
        due("one edit again", x.count(2), 1);
        due("a<=5 is unfilled again", x.condition(0, 5), 0);
        x.endEdits();
        x.setStay(0, 5);
        dueValues("the next change settles", x, 5);
    }

    // ---- promise 9

    private static void settleFrom() {
        StrengthLayout x = chain();
        int states = x.count(4);
        due("settleFrom 100: only d must differ, and c and b", x.settleFrom(100), 3);
        due("it is undoable", x.count(4), states + 1);
        dueValues("settled from 100", x, 100, 120, 125, -40, 100, 100, 100, 100, 100, 100);
        due("settleFrom 0", x.settleFrom(0), 4);
        dueValues("settled from 0", x, 10, 30, 35, -40, 0, 0, 0, 0, 0, 0);
        due("settleFrom 1000", x.settleFrom(1000), 3);
        dueValues("a goes first, to 975", x, 975, 995, 1000, -40, 1000);
        due("settleFrom -1000", x.settleFrom(-1000), 4);
        for (int value : new int[] {-1001, 1001, FAR, FAR_BELOW}) {
            CHECKS.refused(x, "settleFrom " + value, ARGUMENT, () -> x.settleFrom(value));
        }
    }

    // ---- promises 10 and 11

    private static void append() {
        StrengthLayout x = new StrengthLayout();
        due("append the least", x.append(33), 1);
        due("append the greatest", x.append(126), 2);
        for (int length = 3; length <= 60; length++) {
            due("append", x.append('a'), length);
        }
        for (int code : new int[] {32, 127, -1, 0, FAR, FAR_BELOW}) {
            CHECKS.refused(x, "append " + code, ARGUMENT, () -> x.append(code));
        }
        CHECKS.refused(x, "a 61st character", STATE, () -> x.append('a'));
        due("append is not undoable", x.count(4), 0);
        due("the buffer had 60", x.clearBuffer(), 60);
    }

    private static void clearBuffer() {
        StrengthLayout x = new StrengthLayout();
        appendAll(x, "a<1");
        due("clearBuffer", x.clearBuffer(), 3);
        due("clearBuffer again", x.clearBuffer(), 0);
        due("append after it", x.append('b'), 1);
        due("it is not undoable", x.count(4), 0);
    }

    // ---- promise 12

    private static void firstError() {
        String[] right = {"", "a", "j<0", "a=0", "a>0", "a-b", "a-b>-", "a<-1", "a<2000", "a<-2000", "a<1999!0",
            "a<1!3;", "a-j=12!2;j-a>-7;c<0", "a<200", "a<0;b<0;c<0;d<0;e<0;f<0;g<0;h<0;i<0;j<0;a<0;b<0;c<0;d<0;e<0;"};
        for (String text : right) {
            due("firstError of " + text, firstErrorOf(text), text.length());
        }
        // Each '|' stands before the character that is wrong.
        String[] wrong = {"|k<0", "|A<0", "|;", "|-", "a|b", "a|;", "a-|a<0", "a-|k", "a-|-", "a-b|-",
            "a-b|c", "a<|<", "a<|!", "a<|;", "a<|a", "a<-|0", "a<-|-", "a<0|0", "a<0|1", "a<0|-", "a<200|1",
            "a<201|0", "a<300|0", "a<-2000|0", "a<-200|1", "a<-999|9", "a<1!|4", "a<1!|;", "a<1!|-", "a<1!1|1", "a<1!1|!",
            "a<1;|;", "a<1;|k", "a<1;a-|a", "a<1|=", "a-b<1;b|b;c-c", "a<1|~"};
        for (String marked : wrong) {
            int at = marked.indexOf('|');
            due("firstError of " + marked, firstErrorOf(marked.replace("|", "")), at);
        }
        StrengthLayout x = chain();
        appendAll(x, "a<b");
        long before = x.digest();
        due("firstError", x.firstError(), 2);
        due("firstError changes nothing", x.digest(), before);
    }

    // ---- promise 13

    private static void load() {
        StrengthLayout x = new StrengthLayout();
        appendAll(x, "a>10!3;b-a>20!2;b<25;c-b=5!1;d=-40!0;j-i<-2000");
        due("load", x.load(), 6);
        due("the buffer is cleared", x.clearBuffer(), 0);
        due("one state is saved", x.count(4), 1);
        int[][] rows = {{0, -1, 2, 10, 3}, {1, 0, 2, 20, 2}, {1, -1, 0, 25, 1}, {2, 1, 1, 5, 1}, {3, -1, 1, -40, 0},
            {9, 8, 0, -2000, 1}};
        for (int k = 0; k < rows.length; k++) {
            for (int what = 0; what < 5; what++) {
                due("condition(" + k + ", " + what + ")", x.condition(k, what), rows[k][what]);
            }
        }
        dueValues("settled", x, 10, 30, 35, -40, 0, 0, 0, 0, 1000, -1000);
        appendAll(x, "e=0!2");
        due("load one more", x.load(), 7);
        due("undo takes one load back", x.undo(), 1);
        due("the buffer does not come back", x.firstError(), 0);
        due("undo takes the other load back", x.undo(), 0);
        dueValues("as before", x, 0, 0, 0, 0, 0, 0, 0, 0, 0, 0);
        StrengthLayout once = new StrengthLayout();
        appendAll(once, "a>10;a<5!2");
        once.load();
        dueValues("settled once, with all of them", once, 0);
        StrengthLayout most = new StrengthLayout();
        most.add(0, -1, 1, 4, 3);
        appendAll(most, "a<0;b<0;c<0;d<0;e<0;f<0;g<0;h<0;i<0;j<0;a>0;b>0;c>0;d>0;e>0");
        due("load up to 16", most.load(), 16);
    }

    private static void loadRefuses() {
        for (String text : new String[] {"", "a", "a-", "a-b", "a<", "a<-", "a<1!", "a<1;", "a<1!2;b", "a<01", "k<1",
            "a-a<1", "a<2001", "a<1!4", "a<1;;b<1", ";a<1"}) {
            StrengthLayout x = new StrengthLayout();
            appendAll(x, text);
            CHECKS.refused(x, "load of " + text, ARGUMENT, x::load);
            due("the buffer stays", x.clearBuffer(), text.length());
        }
        StrengthLayout x = full();
        CHECKS.refused(x, "load of nothing into a full one", ARGUMENT, x::load);
        appendAll(x, "a<1");
        CHECKS.refused(x, "load of a 17th", STATE, x::load);
        x.append(';');
        CHECKS.refused(x, "load of a text with an open end into a full one", ARGUMENT, x::load);
        due("the buffer stays", x.clearBuffer(), 4);
        x.remove(0);
        appendAll(x, "a<1;b<1");
        CHECKS.refused(x, "load of two where one has room", STATE, x::load);
        x.remove(0);
        due("load of two where two have room", x.load(), 16);
    }

    // ---- promise 14

    private static void undo() {
        StrengthLayout x = new StrengthLayout();
        for (int k = 0; k < 10; k++) {
            x.add(k, -1, 2, k + 1, 1);
        }
        due("at most 8 states", x.count(4), 8);
        for (int left = 7; left >= 0; left--) {
            due("undo", x.undo(), left);
            due("the conditions then", x.count(0), left + 2);
            due("the value of the last one is back", x.place(left + 2, 0), 0);
        }
        CHECKS.refused(x, "undo without states", STATE, x::undo);
        dueValues("the oldest states were dropped", x, 1, 2, 0);
        StrengthLayout y = new StrengthLayout();
        y.add(0, -1, 2, 10, 3);
        y.add(1, 0, 2, 20, 2);
        y.setStay(0, 8);
        long before = y.digest();
        int states = y.count(4);
        y.edit(0, 300, 3);
        y.setStay(0, 2);
        y.remove(1);
        y.undo();
        y.undo();
        due("undo leaves one state less each", y.undo(), states);
        due("all is as it was before", y.digest(), before);
        y.endEdits();
        y.undo();
        due("also after endEdits", y.digest(), before);
        StrengthLayout unsettled = new StrengthLayout();
        unsettled.add(0, -1, 0, 5, 1);
        unsettled.edit(0, 20, 1);
        unsettled.endEdits();
        unsettled.remove(0);
        unsettled.undo();
        dueValues("undo restores values without settling", unsettled, 20);
        due("but fills anew", unsettled.place(0, 3), 5);
        appendAll(unsettled, "a<");
        unsettled.undo();
        due("undo leaves the buffer", unsettled.clearBuffer(), 2);
    }

    // ---- promises 15 to 17

    private static void place() {
        StrengthLayout x = chain();
        x.setStay(2, 7);
        x.edit(4, 12, 2);
        x.edit(1, 90, 0);
        // b<=25 is unfilled; b=90 is filled, and lets a be from 10 to 70.
        int[][] want = {{10, 5, 10, 70, 2, -1}, {90, 5, 90, 90, 3, 1}, {95, 7, 95, 95, 1, -1},
            {-40, 5, -40, -40, 1, -1}, {12, 5, 12, 12, 0, 0}, {0, 5, -1000, 1000, 0, -1}};
        for (int p = 0; p < want.length; p++) {
            for (int what = 0; what < 6; what++) {
                due("place(" + p + ", " + what + ")", x.place(p, what), want[p][what]);
            }
        }
        for (int p : new int[] {-1, 10, FAR, FAR_BELOW}) {
            CHECKS.refused(x, "place " + p, INDEX, () -> x.place(p, 6));
        }
        for (int what : new int[] {-1, 6, FAR, FAR_BELOW}) {
            CHECKS.refused(x, "place what " + what, ARGUMENT, () -> x.place(0, what));
        }
    }

    private static void condition() {
        StrengthLayout x = chain();
        // b - a goes from -2000 to 990 before b-a>=20, c - b from -2000 to 970 before c-b=5.
        int[][] want = {{0, -1, 2, 10, 3, 1, 1010, 0, 0, 1}, {1, 0, 2, 20, 2, 1, 2020, 1, 0, 1},
            {1, -1, 0, 25, 1, 0, 5, 2, 3, 0}, {2, 1, 1, 5, 1, 1, 2970, 3, 0, 1},
            {3, -1, 1, -40, 0, 1, 2000, 4, 0, 1}};
        for (int k = 0; k < want.length; k++) {
            for (int what = 0; what < 10; what++) {
                due("condition(" + k + ", " + what + ")", x.condition(k, what), want[k][what]);
            }
        }
        x.edit(9, 1, 2);
        due("an edit goes before a condition of its strength", x.condition(1, 7), 2);
        due("one of greater strength stays before it", x.condition(0, 7), 0);
        x.edit(8, 1, 0);
        due("edits of lesser strength go behind", x.condition(3, 7), 4);
        due("and before a condition of theirs", x.condition(4, 7), 6);
        for (int k : new int[] {-1, 5, FAR, FAR_BELOW}) {
            CHECKS.refused(x, "condition " + k, INDEX, () -> x.condition(k, 10));
        }
        for (int what : new int[] {-1, 10, FAR, FAR_BELOW}) {
            CHECKS.refused(x, "condition what " + what, ARGUMENT, () -> x.condition(0, what));
        }
    }

    private static int marginOf(String before, String asked) {
        StrengthLayout x = new StrengthLayout();
        appendAll(x, before + asked + "!0");
        return x.condition(x.load() - 1, 6);
    }

    private static void margins() {
        due("a=3 narrows by all", marginOf("", "a=3"), 2000);
        due("a<1000 narrows by nothing", marginOf("", "a<1000"), 0);
        due("a<2000 narrows by nothing", marginOf("", "a<2000"), 0);
        due("a<-1000", marginOf("", "a<-1000"), 2000);
        due("a>-2000 narrows by nothing", marginOf("", "a>-2000"), 0);
        due("a>1000", marginOf("", "a>1000"), 2000);
        due("a<-1001 lacks 1", marginOf("", "a<-1001"), 1);
        due("a>1001 lacks 1", marginOf("", "a>1001"), -1);
        due("a=1500", marginOf("", "a=1500"), -500);
        due("a=-1500", marginOf("", "a=-1500"), 500);
        due("a-b narrows from -2000 to 2000", marginOf("", "a-b=0"), 4000);
        due("a-b<-2000", marginOf("", "a-b<-2000"), 4000);
        due("a-b<0 with a=5", marginOf("a=5;", "a-b<0"), 1005);
        due("a-b>1006 with a=5", marginOf("a=5;", "a-b>1006"), -1);
        due("a-b=-996 with a=5", marginOf("a=5;", "a-b=-996"), 1);
        due("a=5 once more", marginOf("a=5;", "a=5"), 0);
        due("over another place", marginOf("a-b=3;b-c=4;", "a-c=7"), 0);
        due("over another place, too far", marginOf("a-b=3;b-c<4;", "a-c>9"), -2);
        due("an unfilled one before does not count", marginOf("a=5;a=6;", "a<6"), 0);
    }

    private static int culpritsOf(String text, int k) {
        StrengthLayout x = new StrengthLayout();
        appendAll(x, text);
        x.load();
        return x.condition(k, 8);
    }

    private static void culprits() {
        due("the only one", culpritsOf("a>5;a<4", 1), 1);
        due("none of two alone", culpritsOf("a>5;a>6;a<4", 2), 0);
        due("the tighter one alone", culpritsOf("a>5;a>6;a<5", 2), 2);
        due("a chain", culpritsOf("a-b>5!2;c<0;b-c>5!3;a<9", 3), 0);
        due("a chain that conflicts", culpritsOf("a-b>5!2;c>0!3;b-c>5!3;a<9", 3), 7);
        due("not without it, since an unfilled one comes in its place", culpritsOf("a>5;a=7;a<6;a<4", 2), 2);
        due("an unfilled one takes the place", culpritsOf("a=5;a=6;a=7", 2), 0);
        due("one behind it is no culprit", culpritsOf("a<4;a>5;a>4", 1), 1);
        due("not possible at all", culpritsOf("a>5;b=1001", 1), 0);
        due("a filled one has none", culpritsOf("a>5;a<4", 0), 0);
        StrengthLayout x = new StrengthLayout();
        x.edit(0, 50, 3);
        x.add(0, 1, 1, 10, 2);
        x.add(1, -1, 1, 41, 1);
        due("the edit is no culprit, the condition is", x.condition(1, 8), 1);
        x.add(0, -1, 1, 49, 1);
        due("against the edit alone there are no culprits", x.condition(2, 8), 0);
    }

    private static void edited() {
        StrengthLayout x = new StrengthLayout();
        x.add(0, -1, 2, 10, 2);
        x.edit(0, 4, 1);
        x.edit(5, -1000, 3);
        x.edit(6, 33, 0);
        int[][] want = {{0, 4, 1, 0, 6}, {5, -1000, 3, 1, 2000}, {6, 33, 0, 1, 2000}};
        for (int k = 0; k < want.length; k++) {
            for (int what = 0; what < 5; what++) {
                due("edited(" + k + ", " + what + ")", x.edited(k, what), want[k][what]);
            }
        }
        x.edit(0, 1000, 1);
        due("margin of a filled edit", x.edited(0, 4), 990);
        x.add(0, -1, 0, 900, 2);
        due("margin of an edit beyond", x.edited(0, 4), -100);
        for (int k : new int[] {-1, 3, FAR, FAR_BELOW}) {
            CHECKS.refused(x, "edited " + k, INDEX, () -> x.edited(k, 5));
        }
        for (int what : new int[] {-1, 5, FAR, FAR_BELOW}) {
            CHECKS.refused(x, "edited what " + what, ARGUMENT, () -> x.edited(0, what));
        }
        x.endEdits();
        CHECKS.refused(x, "edited without edits", INDEX, () -> x.edited(0, 0));
    }

    // ---- promises 18 and 19

    private static void widest() {
        StrengthLayout x = chain();
        due("widest of one with itself", x.widest(0, 0), 0);
        due("widest b - a", x.widest(1, 0), 985);
        due("widest a - b", x.widest(0, 1), -20);
        due("widest c - a", x.widest(2, 0), 990);
        due("widest a - c", x.widest(0, 2), -25);
        due("widest e - f", x.widest(4, 5), 2000);
        due("widest e - d", x.widest(4, 3), 1040);
        x.edit(1, 50, 0);
        due("edits count", x.widest(1, 0), 40);
        for (int place : new int[] {-1, 10, FAR, FAR_BELOW}) {
            CHECKS.refused(x, "widest of " + place, INDEX, () -> x.widest(place, 0));
            CHECKS.refused(x, "widest to " + place, INDEX, () -> x.widest(0, place));
        }
    }

    private static void count() {
        StrengthLayout x = chain();
        dueCounts("chain", x, 5, 4, 0, 0, 5, 1, 4, 35);
        x.edit(5, 8, 3);
        x.edit(6, 8, 3);
        x.edit(0, 9, 1);
        dueCounts("with edits", x, 5, 4, 3, 2, 8, 3, 4, 51);
        x.edit(0, 980, 1);
        dueCounts("c-b=5 does not fit, b must be 1000", x, 5, 3, 3, 3, 8, 5, 3, 980 + 1000 + 35 - 40 + 16);
        x.edit(0, 975, 1);
        dueCounts("c can only be 1000", x, 5, 4, 3, 3, 8, 6, 4, 975 + 995 + 1000 - 40 + 16);
        StrengthLayout narrow = new StrengthLayout();
        narrow.add(0, -1, 2, 999, 1);
        due("a range of two values", narrow.count(5), 0);
        narrow.add(0, -1, 2, 1000, 1);
        due("a range of one value", narrow.count(5), 1);
        for (int what : new int[] {-1, 8, FAR, FAR_BELOW}) {
            CHECKS.refused(x, "count " + what, ARGUMENT, () -> x.count(what));
        }
    }

    // ---- promises 20 to 24

    private static void ifEdited() {
        StrengthLayout x = chain();
        long before = x.digest();
        due("b if a were 50", x.ifEdited(0, 50, 1, 1), 70);
        due("c if a were 50", x.ifEdited(0, 50, 1, 2), 75);
        due("a if a were to be 5", x.ifEdited(0, 5, 2, 0), 10);
        due("d against d=-40", x.ifEdited(3, 6, 0, 3), 6);
        due("nothing is changed", x.digest(), before);
        x.edit(0, 50, 0);
        x.edit(5, 1, 0);
        x.edit(6, 1, 0);
        before = x.digest();
        due("a 4th edit", x.ifEdited(1, 200, 0, 2), 205);
        due("the 4th edit goes behind the others of its strength", x.ifEdited(1, 60, 0, 1), 70);
        due("a 4th edit that is stronger", x.ifEdited(1, 60, 1, 0), 40);
        due("another wish for an edit", x.ifEdited(0, 30, 0, 1), 70);
        due("another wish for a", x.ifEdited(0, 30, 0, 0), 30);
        due("nothing is changed", x.digest(), before);
        due("three edits", x.count(2), 3);
        for (int place : new int[] {-1, 10, FAR, FAR_BELOW}) {
            CHECKS.refused(x, "ifEdited of " + place, INDEX, () -> x.ifEdited(place, 1001, 0, 0));
            CHECKS.refused(x, "ifEdited asked " + place, INDEX, () -> x.ifEdited(0, 0, 4, place));
        }
        for (int wish : new int[] {-1001, 1001, FAR, FAR_BELOW}) {
            CHECKS.refused(x, "ifEdited to " + wish, ARGUMENT, () -> x.ifEdited(0, wish, 0, 0));
        }
        for (int strength : new int[] {-1, 4, FAR, FAR_BELOW}) {
            CHECKS.refused(x, "ifEdited strength " + strength, ARGUMENT, () -> x.ifEdited(0, 0, strength, 0));
        }
    }

    private static void ifRemoved() {
        StrengthLayout x = chain();
        long before = x.digest();
        int[] want = {4, 4, 4, 3, 3};
        for (int k = 0; k < want.length; k++) {
            due("ifRemoved(" + k + ")", x.ifRemoved(k), want[k]);
        }
        due("nothing is changed", x.digest(), before);
        x.setNumber(2, 2000);
        due("asked anew after a change", x.ifRemoved(0), 4);
        due("and for the one that was unfilled", x.ifRemoved(2), 4);
        due("and for another", x.ifRemoved(3), 4);
        for (int k : new int[] {-1, 5, FAR, FAR_BELOW}) {
            CHECKS.refused(x, "ifRemoved of " + k, INDEX, () -> x.ifRemoved(k));
        }
    }

    private static void neededStrength() {
        StrengthLayout x = chain();
        long before = x.digest();
        // a>=10 at 1 goes before b<=25 of the same strength, at 0 behind it.
        int[] want = {1, 1, 3, 0, 0};
        for (int k = 0; k < want.length; k++) {
            due("neededStrength(" + k + ")", x.neededStrength(k), want[k]);
        }
        due("nothing is changed", x.digest(), before);
        StrengthLayout y = new StrengthLayout();
        y.add(0, -1, 1, 5, 3);
        y.add(0, -1, 1, 6, 0);
        due("no strength is enough behind an earlier one", y.neededStrength(1), StrengthLayout.NONE);
        due("nor for what cannot be", y.neededStrength(0), 0);
        y.edit(0, 7, 3);
        due("no strength is enough against an edit of 3", y.neededStrength(0), StrengthLayout.NONE);
        y.edit(0, 7, 2);
        due("3 is enough against an edit of 2", y.neededStrength(0), 3);
        for (int k : new int[] {-1, 2, FAR, FAR_BELOW}) {
            CHECKS.refused(y, "neededStrength of " + k, INDEX, () -> y.neededStrength(k));
        }
    }

    private static void dueFreedom(String when, StrengthLayout x, int widths) {
        due(when, Float.floatToIntBits(x.freedom()), Float.floatToIntBits((float) widths / 20000.0f));
    }

    private static void freedom() {
        StrengthLayout x = new StrengthLayout();
        dueFreedom("all free", x, 20000);
        x.add(0, -1, 2, -999, 1);
        dueFreedom("1 less", x, 19999);
        dueFreedom("chain", chain(), 3 * 965 + 6 * 2000);
        StrengthLayout fixed = new StrengthLayout();
        for (int p = 0; p < 10; p++) {
            fixed.add(p, -1, 1, p, 1);
        }
        dueFreedom("nothing is free", fixed, 0);
        fixed.setNumber(0, -1000);
        fixed.remove(0);
        fixed.add(0, -1, 0, -999, 1);
        dueFreedom("the least that is free", fixed, 1);
    }

    /** Worked out with the calls of the face, as the document lists them. */
    private static long digestOf(StrengthLayout x, String buffer) {
        long hash = 2129;
        for (int what = 0; what <= 7; what++) {
            hash = 31 * hash + x.count(what);
        }
        for (int p = 0; p < 10; p++) {
            for (int what = 0; what <= 5; what++) {
                hash = 31 * hash + x.place(p, what);
            }
        }
        for (int k = 0; k < x.count(0); k++) {
            for (int what = 0; what <= 9; what++) {
                hash = 31 * hash + x.condition(k, what);
            }
            hash = 31 * hash + x.ifRemoved(k);
            hash = 31 * hash + x.neededStrength(k);
        }
        for (int k = 0; k < x.count(2); k++) {
            for (int what = 0; what <= 4; what++) {
                hash = 31 * hash + x.edited(k, what);
            }
        }
        for (int one = 0; one < 10; one++) {
            for (int other = 0; other < 10; other++) {
                hash = 31 * hash + x.widest(one, other);
            }
        }
        hash = 31 * hash + Float.floatToIntBits(x.freedom());
        hash = 31 * hash + buffer.length();
        for (char c : buffer.toCharArray()) {
            hash = 31 * hash + c;
        }
        return hash;
    }

    private static void digest() {
        StrengthLayout x = chain();
        due("digest of the chain", x.digest(), digestOf(x, ""));
        x.edit(0, 9, 1);
        x.edit(7, 9, 1);
        appendAll(x, "a<1;~!");
        due("digest with edits and a buffer", x.digest(), digestOf(x, "a<1;~!"));
        due("digest of a new one", new StrengthLayout().digest(), digestOf(new StrengthLayout(), ""));
        // Each power of two of a width is another exponent of the float.
        for (int width = 0; width <= 2000; width = width < 70 ? width + 1 : width + 97) {
            StrengthLayout narrow = withWidth(width);
            due("digest with a width of " + width, narrow.digest(), digestOf(narrow, ""));
        }
    }

    /** A layout in which only a is free, with so many values beside its least one. */
    private static StrengthLayout withWidth(int width) {
        StrengthLayout x = new StrengthLayout();
        for (int p = 1; p < 10; p++) {
            x.add(p, -1, 1, 0, 2);
        }
        x.add(0, -1, 0, -1000 + width, 2);
        return x;
    }

    /** An object must serve 512 calls, and the rows that it uses again must not run out: these are 506. */
    private static void longRun() {
        StrengthLayout x = new StrengthLayout();
        for (int round = 0; round < 46; round++) {
            due("add", x.add(round % 10, (round + 1) % 10, round % 3, round, round % 4), 0);
            appendAll(x, "a=1");
            due("load", x.load(), 2);
            x.edit(round % 10, round, 2);
            due("undo", x.undo(), round == 0 ? 2 : 7);
            x.endEdits();
            x.remove(1);
            x.remove(0);
            due("empty", x.count(0), 0);
        }
    }
}
