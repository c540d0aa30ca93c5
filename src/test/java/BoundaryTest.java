import java.math.BigInteger;
import java.util.ArrayDeque;
import java.util.Deque;
import java.util.List;
import java.util.function.Supplier;

/**
 * The boundary cases of the promises, one by one: for each argument the least and the greatest value, and the ones
 * beside them; nothing and one too many of each thing; each exception, by the order of the throws clause; and that a
 * refused call changes nothing. No object is used for more than 512 calls, since what later ones answer is free.
 */
public final class BoundaryTest {
    private static final Checks CHECKS = new Checks("BoundaryTest");
    private static final Class<IndexOutOfBoundsException> INDEX = IndexOutOfBoundsException.class;
    private static final Class<IllegalArgumentException> ARGUMENT = IllegalArgumentException.class;
    private static final Class<IllegalStateException> STATE = IllegalStateException.class;

    private static final List<Supplier<StrengthLayout>> SOME_AND_FULL =
            List.of(BoundaryTest::some, BoundaryTest::full);

    /** A call on a layout, with the one argument that is looked at. */
    private interface Asking {
        long answer(StrengthLayout x, int value);
    }

    /** A call on a layout. */
    private interface Calling {
        long answer(StrengthLayout x);
    }

    public static void main(String[] args) {
        newObject();
        addArguments();
        addNumbers();
        addBoundaries();
        addSixteen();
        removeBoundaries();
        setStrengthBoundaries();
        setNumberBoundaries();
        setStayBoundaries();
        editArguments();
        editBoundaries();
        editThree();
        endEditsBoundaries();
        settleFromBoundaries();
        appendArguments();
        appendSixty();
        clearBufferBoundaries();
        firstErrorBoundaries();
        loadCompleteTexts();
        loadSixteen();
        loadSixtyCharacters();
        undoNothingSaved();
        undoEightStates();
        undoRoundAbout();
        undoableCalls();
        notUndoableCalls();
        settlingCalls();
        placeArguments();
        conditionArguments();
        editedArguments();
        widestBoundaries();
        countBoundaries();
        ifEditedArguments();
        ifEditedBoundaries();
        ifRemovedBoundaries();
        neededStrengthBoundaries();
        freedomBoundaries();
        digestOverflows();
        digestLists();
        orderOfExceptions();
        questionsChangeNothing();
        lastPromisedCall();
        CHECKS.end();
    }

    // ---- the layouts that are looked at

    private static StrengthLayout empty() {
        return new StrengthLayout();
    }

    /** Three conditions, the last one unfilled, two edits, six saved states, and the buffer "a<1". */
    private static StrengthLayout some() {
        StrengthLayout x = new StrengthLayout();
        x.add(0, -1, 2, 10, 3);
        x.add(1, 0, 2, 20, 2);
        x.add(1, -1, 0, 25, 1);
        x.setStay(2, 7);
        x.edit(3, 40, 2);
        x.edit(4, -5, 0);
        write(x, "a<1");
        return x;
    }

    /** As many conditions, edits, saved states and characters as there can be. */
    private static StrengthLayout full() {
        StrengthLayout x = new StrengthLayout();
        for (int k = 0; k < 16; k++) {
            x.add(k % 10, k < 8 ? -1 : (k + 1) % 10, k % 3, 10 * k - 70, k % 4);
        }
        x.edit(7, 30, 0);
        x.edit(8, -30, 1);
        x.edit(9, 5, 3);
        for (int i = 0; i < 60; i++) {
            x.append(i % 4 == 3 ? ';' : "a<0".charAt(i % 4));
        }
        return x;
    }

    private static StrengthLayout ofText(String text) {
        StrengthLayout x = new StrengthLayout();
        write(x, text);
        x.load();
        return x;
    }

    private static void write(StrengthLayout x, String text) {
        for (int i = 0; i < text.length(); i++) {
            x.append(text.charAt(i));
        }
    }

    private static void rewrite(StrengthLayout x, String text) {
        x.clearBuffer();
        write(x, text);
    }

    // ---- what is asked of them

    private static void due(String call, long got, long want) {
        CHECKS.due(call, got, want);
    }

    private static void dueAll(String what, int from, int to, int want, Asking asking, StrengthLayout x) {
        for (int value = from; value <= to; value++) {
            due(what + " of " + value, asking.answer(x, value), want);
        }
    }

    /** All that the two layouts tell is the same, now and after each undo. */
    private static void dueSame(String when, StrengthLayout x, StrengthLayout twin) {
        int states = twin.count(4);
        due(when + ": firstError()", x.firstError(), twin.firstError());
        due(when + ": digest()", x.digest(), twin.digest());
        for (int left = states - 1; left >= 0; left--) {
            due(when + ": undo()", x.undo(), left);
            twin.undo();
            due(when + ": digest() with " + left + " states left", x.digest(), twin.digest());
        }
        CHECKS.throwing(when + ": undo() of none", STATE, x::undo);
    }

    /** The call throws just this exception, and changes nothing, saved states among it. */
    private static void refused(String call, Supplier<StrengthLayout> made, Class<? extends RuntimeException> want,
            Calling calling) {
        StrengthLayout x = made.get();
        CHECKS.throwing(call, want, () -> calling.answer(x));
        dueSame("after the refused " + call, x, made.get());
    }

    private static void refusedAt(String call, Supplier<StrengthLayout> made, Class<? extends RuntimeException> want,
            Asking asking, int... values) {
        for (int value : values) {
            refused(call + " with " + value, made, want, x -> asking.answer(x, value));
        }
    }

    private static void taken(String call, Supplier<StrengthLayout> made, Asking asking, int... values) {
        for (int value : values) {
            StrengthLayout x = made.get();
            try {
                asking.answer(x, value);
            } catch (RuntimeException e) {
                CHECKS.fail(call + " with " + value + " threw " + e);
            }
        }
    }

    /** The argument can be from least to greatest; what is beside this is refused, in a full layout too. */
    private static void ranges(String call, Class<? extends RuntimeException> want, int least, int greatest,
            Asking asking) {
        taken(call, BoundaryTest::some, asking, least, least + 1, greatest - 1, greatest);
        int[] beside = {least - 1, greatest + 1, Integer.MIN_VALUE, Integer.MAX_VALUE};
        refusedAt(call, BoundaryTest::some, want, asking, beside);
        refusedAt(call + " when all is full", BoundaryTest::full, want, asking, beside);
    }

    /** The argument is the number of a condition. */
    private static void rangesOverConditions(String call, Asking asking) {
        taken(call, BoundaryTest::some, asking, 0, 1, 2);
        refusedAt(call, BoundaryTest::some, INDEX, asking, -1, 3, Integer.MIN_VALUE, Integer.MAX_VALUE);
        taken(call + " of 16", BoundaryTest::full, asking, 0, 15);
        refusedAt(call + " of 16", BoundaryTest::full, INDEX, asking, -1, 16);
        refusedAt(call + " of none", BoundaryTest::empty, INDEX, asking, -1, 0, 1);
    }

    // ---- promise 1

    private static void newObject() {
        StrengthLayout x = new StrengthLayout();
        dueAll("count of a new one", 0, 4, 0, StrengthLayout::count, x);
        dueAll("count of a new one", 5, 7, 0, StrengthLayout::count, x);
        dueAll("value", 0, 9, 0, (y, place) -> y.place(place, 0), x);
        dueAll("stay", 0, 9, 5, (y, place) -> y.place(place, 1), x);
        dueAll("least value", 0, 9, -1000, (y, place) -> y.place(place, 2), x);
        dueAll("greatest value", 0, 9, 1000, (y, place) -> y.place(place, 3), x);
        dueAll("conditions with it", 0, 9, 0, (y, place) -> y.place(place, 4), x);
        dueAll("number of its edit", 0, 9, -1, (y, place) -> y.place(place, 5), x);
        due("the buffer is empty", x.firstError(), 0);
        due("the buffer is empty", x.clearBuffer(), 0);
        due("NONE", StrengthLayout.NONE, -1);
    }

    // ---- promise 2

    private static void addArguments() {
        ranges("add left", INDEX, 0, 9, (x, left) -> x.add(left, 5, 1, 0, 1));
        ranges("add right", INDEX, -1, 9, (x, right) -> x.add(5, right, 1, 0, 1));
        ranges("add sign", ARGUMENT, 0, 2, (x, sign) -> x.add(0, 1, sign, 0, 1));
        ranges("add number", ARGUMENT, -2000, 2000, (x, number) -> x.add(0, 1, 0, number, 1));
        ranges("add strength", ARGUMENT, 0, 3, (x, strength) -> x.add(0, 1, 0, 0, strength));
        for (int place = 0; place <= 9; place++) {
            int same = place;
            refused("add of " + same + " twice", BoundaryTest::some, INDEX, x -> x.add(same, same, 1, 0, 1));
        }
    }

    private static void addNumbers() {
        StrengthLayout x = empty();
        for (int k = 0; k < 16; k++) {
            due("add returns its number", x.add(9, 0, 0, 2000, 0), k);
            due("count(0)", x.count(0), k + 1);
        }
        x.remove(15);
        due("add returns its number again", x.add(9, 0, 0, 2000, 0), 15);
    }

    private static void dueRow(StrengthLayout x, int k, int... row) {
        for (int what = 0; what < row.length; what++) {
            due("condition(" + k + ", " + what + ")", x.condition(k, what), row[what]);
        }
    }

    private static void addBoundaries() {
        StrengthLayout x = empty();
        x.add(0, -1, 0, -2000, 0);
        x.add(9, 8, 2, 2000, 3);
        x.add(0, 9, 1, -2000, 0);
        x.add(9, 0, 1, 2000, 3);
        dueRow(x, 0, 0, -1, 0, -2000, 0, 0);
        dueRow(x, 1, 9, 8, 2, 2000, 3, 1);
        dueRow(x, 2, 0, 9, 1, -2000, 0, 1);
        dueRow(x, 3, 9, 0, 1, 2000, 3, 1);
        due("j - i = 2000", x.place(9, 0), 1000);
        due("j - i = 2000", x.place(8, 0), -1000);
        due("j - a = 2000", x.place(0, 0), -1000);
    }

    private static void addSixteen() {
        refused("add of a 17th", BoundaryTest::full, STATE, x -> x.add(0, 1, 0, 0, 0));
        StrengthLayout x = full();
        x.remove(15);
        due("add of the 16th", x.add(0, -1, 0, 0, 0), 15);
        CHECKS.throwing("add of a 17th", STATE, () -> x.add(0, -1, 0, 0, 0));
    }

    // ---- promises 3 to 6

    private static void removeBoundaries() {
        rangesOverConditions("remove", StrengthLayout::remove);
        StrengthLayout x = some();
        due("remove of the last, which is unfilled", x.remove(2), 0);
        due("remove of the first, which is filled", x.remove(0), 1);
        dueRow(x, 0, 1, 0, 2, 20, 2);
        due("remove of the only one", x.remove(0), 1);
        due("none is left", x.count(0), 0);
        CHECKS.throwing("remove of none", INDEX, () -> x.remove(0));
        StrengthLayout unedited = ofText("a>5;a<4");
        due("remove of a filled one where no edit is", unedited.remove(0), 1);
        due("remove of what is filled then", unedited.remove(0), 1);
        StrengthLayout edited = empty();
        edited.edit(0, 5, 3);
        edited.add(0, -1, 1, 6, 3);
        due("remove of an unfilled one where an edit is filled", edited.remove(0), 0);
        StrengthLayout full = full();
        full.remove(0);
        for (int k = 0; k < 15; k++) {
            due("the numbers of the later ones decrease by 1", full.condition(k, 3), 10 * (k + 1) - 70);
        }
        CHECKS.throwing("the last number is free", INDEX, () -> full.condition(15, 0));
    }

    private static void setStrengthBoundaries() {
        rangesOverConditions("setStrength of", (x, k) -> x.setStrength(k, 1));
        ranges("setStrength to", ARGUMENT, 0, 3, (x, strength) -> x.setStrength(0, strength));
        StrengthLayout x = some();
        due("setStrength to 0", x.setStrength(1, 0), 2);
        due("setStrength to 3", x.setStrength(1, 3), 0);
        due("setStrength to the same", x.setStrength(1, 3), 3);
        due("the strength", x.condition(1, 4), 3);
    }

    private static void setNumberBoundaries() {
        rangesOverConditions("setNumber of", (x, k) -> x.setNumber(k, 1));
        ranges("setNumber to", ARGUMENT, -2000, 2000, (x, number) -> x.setNumber(0, number));
        StrengthLayout x = some();
        due("setNumber to -2000", x.setNumber(2, -2000), 25);
        due("setNumber to 2000", x.setNumber(2, 2000), -2000);
        due("setNumber to the same", x.setNumber(2, 2000), 2000);
        due("the number", x.condition(2, 3), 2000);
        due("it is filled now", x.condition(2, 5), 1);
    }

    private static void setStayBoundaries() {
        ranges("setStay of", INDEX, 0, 9, (x, place) -> x.setStay(place, 1));
        ranges("setStay to", ARGUMENT, 0, 9, (x, stay) -> x.setStay(0, stay));
        StrengthLayout x = empty();
        due("setStay to 0", x.setStay(0, 0), 5);
        due("setStay to 9", x.setStay(9, 9), 5);
        due("setStay to the same", x.setStay(9, 9), 9);
        due("the stay of a", x.place(0, 1), 0);
        due("the stay of j", x.place(9, 1), 9);
        dueAll("the other stays", 1, 8, 5, (y, place) -> y.place(place, 1), x);
    }

    // ---- promises 7 and 8

    private static void editArguments() {
        taken("edit of", BoundaryTest::empty, (x, place) -> x.edit(place, 1, 1), 0, 1, 8, 9);
        for (Supplier<StrengthLayout> made : SOME_AND_FULL) {
            refusedAt("edit of", made, INDEX, (x, place) -> x.edit(place, 1, 1), -1, 10, Integer.MIN_VALUE,
                    Integer.MAX_VALUE);
        }
        ranges("edit to", ARGUMENT, -1000, 1000, (x, wish) -> x.edit(x.edited(0, 0), wish, 1));
        ranges("edit with strength", ARGUMENT, 0, 3, (x, strength) -> x.edit(x.edited(0, 0), 1, strength));
    }

    private static void editBoundaries() {
        StrengthLayout x = empty();
        due("edit to 1000", x.edit(0, 1000, 0), 1000);
        due("edit to -1000", x.edit(9, -1000, 3), -1000);
        due("edit to the other end", x.edit(0, -1000, 3), -1000);
        due("it keeps its number", x.place(0, 5), 0);
        due("its strength", x.edited(0, 2), 3);
        due("the number of the other one", x.place(9, 5), 1);
        due("no other edits", x.count(2), 2);
        x.add(0, 9, 1, 1, 3);
        due("the value of the place then, not the wish", x.edit(0, 1000, 2), -999);
    }

    private static void editThree() {
        StrengthLayout x = empty();
        for (int place = 0; place < 3; place++) {
            due("edit", x.edit(place, 5, 0), 5);
            due("edits", x.count(2), place + 1);
        }
        for (int place = 3; place <= 9; place++) {
            int fourth = place;
            CHECKS.throwing("a 4th edit", STATE, () -> x.edit(fourth, 5, 0));
        }
        for (int place = 0; place < 3; place++) {
            due("an edit of one of the three", x.edit(place, 6, 3), 6);
        }
        due("three edits", x.count(2), 3);
        due("undo of an edit's change", x.undo(), 5);
        due("its wish is back", x.edited(2, 1), 5);
        x.undo();
        x.undo();
        x.undo();
        due("undo of an edit", x.count(2), 2);
        due("there is room again", x.edit(9, 5, 0), 5);
        refused("a 4th edit", BoundaryTest::full, STATE, y -> y.edit(0, 0, 0));
    }

    private static void endEditsBoundaries() {
        StrengthLayout x = empty();
        due("endEdits of none", x.endEdits(), 0);
        due("it is undoable also then", x.count(4), 1);
        StrengthLayout three = empty();
        for (int place = 7; place <= 9; place++) {
            three.edit(place, 10 * place, 0);
        }
        due("endEdits of three", three.endEdits(), 3);
        due("no edits", three.count(2), 0);
        dueAll("no edit of any place", 0, 9, -1, (y, place) -> y.place(place, 5), three);
        due("the values stay as they are", three.count(7), 240);
        due("the ranges do not", three.freedom() == 1.0f ? 1 : 0, 1);
        due("endEdits again", three.endEdits(), 0);
        due("undo brings none back", three.undo(), 4);
        due("none", three.count(2), 0);
        due("undo brings three back", three.undo(), 3);
        due("three", three.count(2), 3);
    }

    // ---- promise 9

    private static void settleFromBoundaries() {
        ranges("settleFrom", ARGUMENT, -1000, 1000, StrengthLayout::settleFrom);
        StrengthLayout x = empty();
        due("settleFrom 1000 moves none from there", x.settleFrom(1000), 0);
        due("all are 1000", x.count(7), 10000);
        due("settleFrom -1000", x.settleFrom(-1000), 0);
        due("all are -1000", x.count(7), -10000);
        StrengthLayout far = empty();
        for (int place = 0; place < 10; place++) {
            far.add(place, -1, 0, -1000, 1);
        }
        due("all have another value", far.settleFrom(1000), 10);
        due("none has", far.settleFrom(-1000), 0);
        due("all but", far.settleFrom(-999), 10);
    }

    // ---- promises 10 to 12

    private static void appendArguments() {
        taken("append", BoundaryTest::some, StrengthLayout::append, 33, 34, 125, 126);
        for (Supplier<StrengthLayout> made : SOME_AND_FULL) {
            refusedAt("append", made, ARGUMENT, StrengthLayout::append, 32, 127, 0, -1, Integer.MIN_VALUE,
                    Integer.MAX_VALUE);
        }
    }

    private static void appendSixty() {
        StrengthLayout x = empty();
        for (int length = 1; length <= 60; length++) {
            due("append", x.append(length % 2 == 0 ? 33 : 126), length);
        }
        CHECKS.throwing("a 61st character", STATE, () -> x.append('a'));
        due("the length of 60 is kept", x.clearBuffer(), 60);
        refused("append of a 61st", BoundaryTest::full, STATE, y -> y.append('a'));
        StrengthLayout full = full();
        due("the buffer of 60", full.clearBuffer(), 60);
        due("there is room again", full.append('a'), 1);
    }

    private static void clearBufferBoundaries() {
        StrengthLayout x = empty();
        due("clearBuffer of an empty one", x.clearBuffer(), 0);
        write(x, "~");
        due("clearBuffer of one character", x.clearBuffer(), 1);
        due("clearBuffer again", x.clearBuffer(), 0);
        due("firstError then", x.firstError(), 0);
        due("nothing is saved", x.count(4), 0);
    }

    private static int firstErrorOf(String text) {
        StrengthLayout x = empty();
        write(x, text);
        return x.firstError();
    }

    private static void firstErrorBoundaries() {
        due("firstError of an empty buffer", firstErrorOf(""), 0);
        due("of a first character that is wrong", firstErrorOf("!a<0"), 0);
        String fifteen = "a<0;b<0;c<0;d<0;e<0;f<0;g<0;h<0;i<0;j<0;a>0;b>0;c>0;d>0;e>0";
        due("of 60 characters that are right", firstErrorOf(fifteen + ";"), 60);
        // No text of 60 characters begins so, but a longer one does.
        due("of 60 that a longer text begins with", firstErrorOf(fifteen.substring(0, 58) + "0!"), 60);
        due("of 60, the last of them wrong", firstErrorOf(fifteen + "!"), 60);
        due("of 60, the last of them wrong", firstErrorOf(fifteen + "="), 59);
        due("the first of two", firstErrorOf("a<0;a<x;a<x"), 6);
        StrengthLayout x = empty();
        write(x, "a<0=");
        due("the length does not count", x.firstError(), 3);
        write(x, "a<0");
        due("nor what comes behind", x.firstError(), 3);
    }

    // ---- promise 13

    private static void loadCompleteTexts() {
        String[] incomplete = {"", "a", "a-", "a-b", "a<", "a-b<", "a<-", "a<0!", "a<0;", "a<0!0;", "a<0;b", ";",
            "a<-0", "a<00", "a<01", "a-a<0", "k<0", "a<2001", "a<-2001", "a<0!4", "a<0!-", "-a<0", "a+b<0", "a<+1",
            "a<0!1!1", "a<0,b<0", "a<=0", "A<0", "a<0;;b<0", "ab<0", "a--b<0", "a<--1", "a<0b<0"};
        for (String text : incomplete) {
            Supplier<StrengthLayout> made = () -> {
                StrengthLayout x = some();
                rewrite(x, text);
                return x;
            };
            refused("load of " + text, made, ARGUMENT, StrengthLayout::load);
        }
        String[] complete = {"a<0", "j>0", "a=0", "a-j=0", "j-a<-2000", "a>2000", "a<-1", "a<0!0", "a<0!3", "a=1;a=1"};
        for (String text : complete) {
            StrengthLayout x = empty();
            write(x, text);
            due("load of " + text, x.load(), text.indexOf(';') < 0 ? 1 : 2);
            due("the buffer is cleared", x.clearBuffer(), 0);
            due("one state is saved", x.count(4), 1);
        }
    }

    private static Supplier<StrengthLayout> withConditions(int conditions, String text) {
        return () -> {
            StrengthLayout x = empty();
            for (int k = 0; k < conditions; k++) {
                x.add(k % 10, -1, 2, k, 1);
            }
            write(x, text);
            return x;
        };
    }

    private static void loadSixteen() {
        String fifteen = "a<0;b<0;c<0;d<0;e<0;f<0;g<0;h<0;i<0;j<0;a>0;b>0;c>0;d>0;e>0";
        due("16 of 1 and 15", withConditions(1, fifteen).get().load(), 16);
        refused("load of 15 to 2", withConditions(2, fifteen), STATE, StrengthLayout::load);
        due("16 of 14 and 2", withConditions(14, "a<0;b<0").get().load(), 16);
        refused("load of 2 to 15", withConditions(15, "a<0;b<0"), STATE, StrengthLayout::load);
        due("16 of 15 and 1", withConditions(15, "a<0").get().load(), 16);
        refused("load of 1 to 16", withConditions(16, "a<0"), STATE, StrengthLayout::load);
        refused("load of nothing to 16", withConditions(16, ""), ARGUMENT, StrengthLayout::load);
    }

    private static void loadSixtyCharacters() {
        String sixty = "a<10;b<0;c<0;d<0;e<0;f<0;g<0;h<0;i<0;j<0;a>0;b>0;c>0;d>0;e=7";
        due("its length", sixty.length(), 60);
        StrengthLayout x = empty();
        write(x, sixty);
        due("firstError", x.firstError(), 60);
        due("load of 60 characters", x.load(), 15);
        due("the last number", x.condition(14, 3), 7);
        due("the buffer is cleared", x.append('a'), 1);
    }

    // ---- promise 14

    private static void undoNothingSaved() {
        refused("undo of a new one", BoundaryTest::empty, STATE, StrengthLayout::undo);
        StrengthLayout x = empty();
        x.setStay(0, 1);
        due("undo of the only state", x.undo(), 0);
        CHECKS.throwing("undo of none any more", STATE, x::undo);
        due("it stays so", x.place(0, 1), 5);
    }

    private static void undoEightStates() {
        for (int calls = 7; calls <= 10; calls++) {
            StrengthLayout x = empty();
            for (int stay = 1; stay <= calls; stay++) {
                x.setStay(0, stay % 10);
            }
            int states = Math.min(calls, 8);
            due("states after " + calls + " calls", x.count(4), states);
            for (int left = states - 1; left >= 0; left--) {
                due("undo after " + calls + " calls", x.undo(), left);
                int stay = calls - states + left;
                due("the stay then", x.place(0, 1), stay == 0 ? 5 : stay % 10);
            }
            CHECKS.throwing("no state is left of " + calls + " calls", STATE, x::undo);
        }
    }

    private static void undoRoundAbout() {
        undoInTurns(4, 3);
        undoInTurns(1, 1);
        undoInTurns(9, 8);
        undoInTurns(11, 5);
    }

    /** Saves and undoes in turns, so that rows that are used again go round and round. */
    private static void undoInTurns(int saves, int undos) {
        StrengthLayout x = empty();
        Deque<Integer> saved = new ArrayDeque<>();
        int stay = 5;
        for (int step = 0; step < 160; step++) {
            if (step % (saves + undos) < saves) {
                saved.addLast(stay);
                stay = step % 10;
                x.setStay(0, stay);
            } else {
                stay = saved.removeLast();
                due("undo in step " + step, x.undo(), saved.size());
            }
            if (saved.size() > 8) {
                saved.removeFirst();
            }
            due("the stay after step " + step, x.place(0, 1), stay);
        }
    }

    /** The call saves the state from before it, which undo brings back; of eight states the oldest one is dropped. */
    private static void undoable(String call, Calling calling) {
        StrengthLayout x = some();
        int states = x.count(4);
        long before = x.digest();
        calling.answer(x);
        due(call + " saves a state", x.count(4), states + 1);
        due(call + " is undone", x.undo(), states);
        rewrite(x, "a<1");
        due("all is as before " + call, x.digest(), before);
        for (int i = 0; i < 7; i++) {
            x.setStay(9, i);
        }
        due("eight states before " + call, x.count(4), 8);
        calling.answer(x);
        due("eight states after " + call, x.count(4), 8);
    }

    private static void undoableCalls() {
        undoable("add", x -> x.add(5, 6, 1, 7, 1));
        undoable("remove", x -> x.remove(0));
        undoable("setStrength", x -> x.setStrength(2, 3));
        undoable("setStrength to the same", x -> x.setStrength(2, 1));
        undoable("setNumber", x -> x.setNumber(0, 300));
        undoable("setNumber to the same", x -> x.setNumber(0, 10));
        undoable("setStay", x -> x.setStay(0, 9));
        undoable("setStay to the same", x -> x.setStay(0, 5));
        undoable("edit", x -> x.edit(5, 100, 3));
        undoable("edit of an edited one", x -> x.edit(4, 100, 3));
        undoable("edit as it is", x -> x.edit(4, -5, 0));
        undoable("endEdits", StrengthLayout::endEdits);
        undoable("settleFrom", x -> x.settleFrom(-1000));
        undoable("load", StrengthLayout::load);
    }

    private static void notUndoableCalls() {
        StrengthLayout x = some();
        x.append('!');
        x.firstError();
        x.clearBuffer();
        x.place(0, 0);
        x.condition(0, 8);
        x.edited(0, 4);
        x.widest(0, 1);
        x.count(4);
        x.ifEdited(0, 5, 3, 1);
        x.ifRemoved(0);
        x.neededStrength(0);
        x.freedom();
        x.digest();
        due("no state is saved", x.count(4), 6);
        due("undo takes the latest edit back", x.undo(), 5);
        due("one edit", x.count(2), 1);
        due("undo is not undoable", x.count(4), 5);
    }

    /** a is 20 though it should be at most 5: what settles moves it, and nothing else does. */
    private static StrengthLayout unsettled() {
        StrengthLayout x = ofText("a<5;b<2000");
        x.edit(0, 20, 1);
        x.endEdits();
        write(x, "c<0");
        return x;
    }

    private static void settles(String call, int want, Calling calling) {
        StrengthLayout x = unsettled();
        calling.answer(x);
        due("a after " + call, x.place(0, 0), want);
    }

    private static void settlingCalls() {
        settles("nothing", 20, x -> 0);
        settles("add", 5, x -> x.add(3, -1, 0, 2000, 0));
        settles("remove", 5, x -> x.remove(1));
        settles("setStrength", 5, x -> x.setStrength(1, 1));
        settles("setNumber", 5, x -> x.setNumber(1, 2000));
        settles("setStay", 5, x -> x.setStay(9, 5));
        settles("edit", 5, x -> x.edit(9, 0, 0));
        settles("load", 5, StrengthLayout::load);
        settles("settleFrom", 4, x -> x.settleFrom(4));
        settles("endEdits", 20, StrengthLayout::endEdits);
        settles("undo of endEdits", 20, StrengthLayout::undo);
        settles("an append, a clearBuffer and a firstError", 20, x -> x.append('a') + x.firstError() + x.clearBuffer());
        settles("undo of a remove", 20, x -> x.remove(1) + x.undo());
        settles("an ifEdited", 20, x -> x.ifEdited(0, 7, 3, 0));
    }

    // ---- promises 15 to 19

    private static void placeArguments() {
        ranges("place", INDEX, 0, 9, (x, place) -> x.place(place, 0));
        ranges("place what", ARGUMENT, 0, 5, (x, what) -> x.place(0, what));
        StrengthLayout x = full();
        int rows = 0;
        for (int place = 0; place <= 9; place++) {
            rows += x.place(place, 4);
        }
        due("8 conditions of one place and 8 of two", rows, 24);
        due("the first edit", x.place(7, 5), 0);
        due("the last edit", x.place(9, 5), 2);
        due("no edit", x.place(6, 5), -1);
        StrengthLayout one = empty();
        for (int k = 0; k < 16; k++) {
            one.add(k % 2 == 0 ? 9 : 0, k % 2 == 0 ? 0 : 9, 0, 2000, 1);
        }
        due("all 16 are with a", one.place(0, 4), 16);
        due("all 16 are with j", one.place(9, 4), 16);
        due("none is with b", one.place(1, 4), 0);
    }

    private static void conditionArguments() {
        rangesOverConditions("condition", (x, k) -> x.condition(k, 0));
        ranges("condition what", ARGUMENT, 0, 9, (x, what) -> x.condition(0, what));
    }

    private static void editedArguments() {
        ranges("edited what", ARGUMENT, 0, 4, (x, what) -> x.edited(0, what));
        Asking asking = (x, k) -> x.edited(k, 0);
        taken("edited", BoundaryTest::some, asking, 0, 1);
        refusedAt("edited of two", BoundaryTest::some, INDEX, asking, -1, 2, Integer.MIN_VALUE, Integer.MAX_VALUE);
        taken("edited", BoundaryTest::full, asking, 0, 2);
        refusedAt("edited of three", BoundaryTest::full, INDEX, asking, -1, 3);
        refusedAt("edited of none", BoundaryTest::empty, INDEX, asking, -1, 0);
    }

    private static void widestBoundaries() {
        ranges("widest of", INDEX, 0, 9, (x, one) -> x.widest(one, 0));
        ranges("widest to", INDEX, 0, 9, (x, other) -> x.widest(0, other));
        StrengthLayout x = empty();
        dueAll("widest to a", 1, 9, 2000, (y, one) -> y.widest(one, 0), x);
        dueAll("widest with itself", 0, 9, 0, (y, one) -> y.widest(one, one), x);
        x.edit(0, 1000, 1);
        x.edit(9, -1000, 1);
        due("the greatest of all", x.widest(0, 9), 2000);
        due("the least of all", x.widest(9, 0), -2000);
    }

    private static void countBoundaries() {
        ranges("count", ARGUMENT, 0, 7, StrengthLayout::count);
        StrengthLayout x = full();
        due("16 conditions", x.count(0), 16);
        due("3 edits", x.count(2), 3);
        due("8 states", x.count(4), 8);
        StrengthLayout fixed = empty();
        for (int place = 0; place < 10; place++) {
            fixed.add(place, -1, 2, 1000, 1);
            due("places with one value", fixed.count(5), place + 1);
        }
        due("all are filled", fixed.count(1), 10);
        due("all hold", fixed.count(6), 10);
        due("the greatest sum", fixed.count(7), 10000);
        fixed.edit(0, 999, 3);
        due("one is not filled", fixed.count(1), 9);
        due("one does not hold", fixed.count(6), 9);
        due("the edit is filled", fixed.count(3), 1);
        fixed.edit(0, 999, 0);
        due("an edit that is not filled", fixed.count(3), 0);
    }

    // ---- promises 20 to 24

    private static void ifEditedArguments() {
        ranges("ifEdited of", INDEX, 0, 9, (x, place) -> x.ifEdited(place, 1, 1, 0));
        ranges("ifEdited to", ARGUMENT, -1000, 1000, (x, wish) -> x.ifEdited(0, wish, 1, 0));
        ranges("ifEdited with strength", ARGUMENT, 0, 3, (x, strength) -> x.ifEdited(0, 1, strength, 0));
        ranges("ifEdited asking for", INDEX, 0, 9, (x, asked) -> x.ifEdited(0, 1, 1, asked));
    }

    private static void ifEditedBoundaries() {
        StrengthLayout x = empty();
        due("with no edit, to 1000", x.ifEdited(9, 1000, 0, 9), 1000);
        due("with no edit, to -1000", x.ifEdited(0, -1000, 3, 0), -1000);
        due("another place", x.ifEdited(0, -1000, 3, 9), 0);
        StrengthLayout three = empty();
        three.edit(0, 5, 1);
        three.edit(1, 5, 1);
        three.edit(2, 5, 1);
        three.add(0, 3, 1, 0, 2);
        due("a fourth edit, behind those of its strength", three.ifEdited(3, 9, 1, 3), 5);
        due("a fourth edit, stronger", three.ifEdited(3, 9, 2, 3), 9);
        due("then the first one gives way", three.ifEdited(3, 9, 2, 0), 9);
        due("one of the three", three.ifEdited(0, -1000, 0, 3), -1000);
        due("no edit is left of it", three.count(2), 3);
        CHECKS.throwing("a fourth edit is refused still", STATE, () -> three.edit(3, 9, 2));
        StrengthLayout again = empty();
        long value = again.ifEdited(4, 77, 2, 4);
        due("as edit would", again.edit(4, 77, 2), value);
    }

    private static void ifRemovedBoundaries() {
        rangesOverConditions("ifRemoved", StrengthLayout::ifRemoved);
        StrengthLayout one = ofText("a<0");
        due("the only one", one.ifRemoved(0), 0);
        StrengthLayout x = some();
        due("without the first", x.ifRemoved(0), 2);
        due("without the unfilled one", x.ifRemoved(2), 2);
        StrengthLayout most = withConditions(16, "").get();
        dueAll("15 others", 0, 15, 15, StrengthLayout::ifRemoved, most);
        most.edit(0, -1000, 3);
        due("edits are not counted, but stay", most.ifRemoved(1), 13);
    }

    private static void neededStrengthBoundaries() {
        rangesOverConditions("neededStrength", StrengthLayout::neededStrength);
        StrengthLayout x = ofText("a<1000!3;a>0!3;a<-1!0;a<-2!0;a>2000!3");
        due("0 is enough", x.neededStrength(0), 0);
        due("1 is needed", ofText("a<0!1;a>1!1").neededStrength(0), 1);
        due("2 is needed", ofText("a>1!1;a<0!1").neededStrength(1), 2);
        due("3 is needed", ofText("a>1!2;a<0!1").neededStrength(1), 3);
        due("3 is not enough", x.neededStrength(2), -1);
        due("never", x.neededStrength(4), -1);
    }

    private static void freedomBoundaries() {
        StrengthLayout x = empty();
        due("the most", Float.floatToIntBits(x.freedom()), 0x3f800000);
        for (int place = 0; place < 10; place++) {
            x.add(place, -1, 0, -1000, 1);
        }
        due("the least", Float.floatToIntBits(x.freedom()), 0);
        x.setNumber(9, -999);
        due("the least above 0", Float.floatToIntBits(x.freedom()), Float.floatToIntBits(1.0f / 20000.0f));
        StrengthLayout y = ofText("a<999");
        due("the most below 1", Float.floatToIntBits(y.freedom()), Float.floatToIntBits(19999.0f / 20000.0f));
    }

    // ---- the hash, by numbers without overflow

    private static final class Hash {
        private static final BigInteger FACTOR = BigInteger.valueOf(31);
        private BigInteger hash = BigInteger.valueOf(2129);

        void take(long value) {
            hash = hash.multiply(FACTOR).add(BigInteger.valueOf(value));
        }

        boolean overflows() {
            return hash.bitLength() > 63;
        }

        long wrapped() {
            return hash.longValue();
        }
    }

    private static void digestOverflows() {
        Hash hash = new Hash();
        int[] counts = {0, 0, 0, 0, 0, 0, 0, 0};
        for (int count : counts) {
            hash.take(count);
        }
        for (int place = 0; place < 10; place++) {
            for (int property : new int[] {0, 5, -1000, 1000, 0, -1}) {
                hash.take(property);
            }
        }
        for (int one = 0; one < 10; one++) {
            for (int other = 0; other < 10; other++) {
                hash.take(one == other ? 0 : 2000);
            }
        }
        hash.take(0x3f800000);
        hash.take(0);
        due("the hash of a new one overflows", hash.overflows() ? 1 : 0, 1);
        due("digest of a new one", empty().digest(), hash.wrapped());
    }

    private static long digestOf(StrengthLayout x, String buffer) {
        Hash hash = new Hash();
        for (int what = 0; what <= 7; what++) {
            hash.take(x.count(what));
        }
        for (int place = 0; place <= 9; place++) {
            for (int what = 0; what <= 5; what++) {
                hash.take(x.place(place, what));
            }
        }
        for (int k = 0; k < x.count(0); k++) {
            for (int what = 0; what <= 9; what++) {
                hash.take(x.condition(k, what));
            }
            hash.take(x.ifRemoved(k));
            hash.take(x.neededStrength(k));
        }
        for (int k = 0; k < x.count(2); k++) {
            for (int what = 0; what <= 4; what++) {
                hash.take(x.edited(k, what));
            }
        }
        for (int one = 0; one <= 9; one++) {
            for (int other = 0; other <= 9; other++) {
                hash.take(x.widest(one, other));
            }
        }
        hash.take(Float.floatToIntBits(x.freedom()));
        hash.take(buffer.length());
        for (char c : buffer.toCharArray()) {
            hash.take(c);
        }
        return hash.wrapped();
    }

    private static void digestLists() {
        due("of a new one", empty().digest(), digestOf(empty(), ""));
        due("of some", some().digest(), digestOf(some(), "a<1"));
        due("of a full one", full().digest(), digestOf(full(), "a<0;".repeat(15)));
        StrengthLayout edits = empty();
        edits.edit(0, -1000, 0);
        edits.edit(5, 1000, 3);
        write(edits, "!~");
        due("of edits alone", edits.digest(), digestOf(edits, "!~"));
        due("of a layout without freedom", pinned(10).digest(), digestOf(pinned(10), ""));
        // Freedoms that are powers of two have bits of the exponent alone.
        due("the freedom of five places", pinned(5).freedom() == 0.5f ? 1 : 0, 1);
        due("of half the freedom", pinned(5).digest(), digestOf(pinned(5), ""));
    }

    /** A layout whose first places have one value each. */
    private static StrengthLayout pinned(int places) {
        StrengthLayout x = empty();
        for (int place = 0; place < places; place++) {
            x.add(place, -1, 1, -1000, 3);
        }
        return x;
    }

    // ---- exceptions, and what changes nothing

    /** If several exceptions apply, the one that is named first is thrown: all pairs of each clause. */
    private static void orderOfExceptions() {
        refused("add: index, argument and state", BoundaryTest::full, INDEX, x -> x.add(-1, 0, 3, 2001, 4));
        refused("add: index and argument", BoundaryTest::some, INDEX, x -> x.add(0, 0, 0, 2001, 0));
        refused("add: index and state", BoundaryTest::full, INDEX, x -> x.add(0, 10, 0, 0, 0));
        refused("add: argument and state", BoundaryTest::full, ARGUMENT, x -> x.add(0, 1, 0, 0, 4));
        refused("add: argument and state", BoundaryTest::full, ARGUMENT, x -> x.add(0, 1, 3, 0, 0));
        refused("add: argument and state", BoundaryTest::full, ARGUMENT, x -> x.add(0, 1, 0, -2001, 0));
        refused("edit: index, argument and state", BoundaryTest::full, INDEX, x -> x.edit(10, 1001, 4));
        refused("edit: index and argument", BoundaryTest::some, INDEX, x -> x.edit(-1, -1001, 0));
        refused("edit: index and state", BoundaryTest::full, INDEX, x -> x.edit(10, 0, 0));
        refused("edit: argument and state", BoundaryTest::full, ARGUMENT, x -> x.edit(0, 0, 4));
        refused("edit: argument and state", BoundaryTest::full, ARGUMENT, x -> x.edit(0, 1001, 0));
        refused("append: argument and state", BoundaryTest::full, ARGUMENT, x -> x.append(127));
        refused("load: argument and state", BoundaryTest::full, ARGUMENT, StrengthLayout::load);
        refused("setStrength: both", BoundaryTest::some, INDEX, x -> x.setStrength(3, 4));
        refused("setNumber: both", BoundaryTest::some, INDEX, x -> x.setNumber(-1, 2001));
        refused("setStay: both", BoundaryTest::some, INDEX, x -> x.setStay(10, 10));
        refused("place: both", BoundaryTest::some, INDEX, x -> x.place(10, 6));
        refused("condition: both", BoundaryTest::some, INDEX, x -> x.condition(3, 10));
        refused("edited: both", BoundaryTest::some, INDEX, x -> x.edited(2, 5));
        refused("edited of none: both", BoundaryTest::empty, INDEX, x -> x.edited(0, -1));
        refused("ifEdited: both, by the place", BoundaryTest::some, INDEX, x -> x.ifEdited(-1, 1001, 4, 0));
        refused("ifEdited: both, by the asked", BoundaryTest::some, INDEX, x -> x.ifEdited(0, 1001, 4, 10));
    }

    private static void leavesAsItIs(String call, Supplier<StrengthLayout> made, Calling calling) {
        StrengthLayout x = made.get();
        calling.answer(x);
        dueSame("after " + call, x, made.get());
    }

    private static void questionsChangeNothing() {
        for (Supplier<StrengthLayout> made : SOME_AND_FULL) {
            leavesAsItIs("firstError", made, StrengthLayout::firstError);
            leavesAsItIs("place", made, x -> x.place(0, 2));
            leavesAsItIs("condition", made, x -> x.condition(2, 8));
            leavesAsItIs("edited", made, x -> x.edited(1, 4));
            leavesAsItIs("widest", made, x -> x.widest(0, 1));
            leavesAsItIs("count", made, x -> x.count(6));
            leavesAsItIs("ifEdited of a new edit", made, x -> x.ifEdited(0, 77, 3, 1));
            leavesAsItIs("ifEdited of an edit", made, x -> x.ifEdited(x.edited(0, 0), 77, 3, 1));
            leavesAsItIs("ifRemoved", made, x -> x.ifRemoved(0));
            leavesAsItIs("neededStrength", made, x -> x.neededStrength(2));
            leavesAsItIs("freedom", made, x -> (long) x.freedom());
            leavesAsItIs("digest", made, StrengthLayout::digest);
        }
    }

    private static void lastPromisedCall() {
        StrengthLayout x = empty();
        for (int call = 1; call <= 511; call++) {
            x.edit(call % 3, call, 1);
        }
        due("the 512th call", x.edit(1, -1000, 1), -1000);
    }
}
