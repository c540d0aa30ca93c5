import java.util.ArrayList;
import java.util.List;

/** The sentences under 'Terms', one by one, each with the boundary cases that it names. */
public final class TermsTest {
    private static final Checks CHECKS = new Checks("TermsTest");
    private static final int VALUE = 0;
    private static final int LEAST = 2;
    private static final int GREATEST = 3;
    private static final int FILLED = 5;
    private static final int MARGIN = 6;
    private static final int TURN = 7;
    private static final int CULPRITS = 8;
    private static final int HOLDS = 9;

    public static void main(String[] args) {
        tenPlaces();
        valuesHaveEnds();
        signsWithoutRight();
        signsWithRight();
        oneEditOfAPlace();
        editsCountAsConditions();
        editsAreNotCounted();
        strongerOnesFirst();
        editsFirstOfTheSameStrength();
        lowerNumbersFirst();
        allTurns();
        filledUpToTheEnds();
        filledOverAllPlaces();
        unfilledOnesDoNotCount();
        fillingLooksAtAllPlaces();
        ranges();
        greaterStaysFirst();
        lowerPlacesFirst();
        nearestValue();
        settledOnesKeepTheirValues();
        fillingAfterEachChange();
        marginsOfEqual();
        marginsOfAtMost();
        marginsOfAtLeast();
        marginsByTurn();
        marginsOfEdits();
        culpritsAlone();
        culpritsBeforeIt();
        culpritsAmongSixteen();
        culpritsBesideEdits();
        charactersThatGoOn();
        usualStrength();
        numbersOfTexts();
        loadSettlesOnce();
        savedAndNotSaved();
        CHECKS.end();
    }

    private static void due(String call, long got, long want) {
        CHECKS.due(call, got, want);
    }

    private static void write(StrengthLayout x, String text) {
        for (int i = 0; i < text.length(); i++) {
            x.append(text.charAt(i));
        }
    }

    private static StrengthLayout of(String... texts) {
        StrengthLayout x = new StrengthLayout();
        for (String text : texts) {
            write(x, text);
            x.load();
        }
        return x;
    }

    private static void dueConditions(String when, StrengthLayout x, int what, int... want) {
        due(when + ": conditions", x.count(0), want.length);
        for (int k = 0; k < want.length; k++) {
            due(when + ": condition(" + k + ", " + what + ")", x.condition(k, what), want[k]);
        }
    }

    private static void duePlaces(String when, StrengthLayout x, int what, int... want) {
        for (int place = 0; place < want.length; place++) {
            due(when + ": place(" + place + ", " + what + ")", x.place(place, what), want[place]);
        }
    }

    // ---- places

    private static void tenPlaces() {
        for (int place = 0; place < 10; place++) {
            StrengthLayout x = of((char) ('a' + place) + "=7");
            due("the letter of a left place", x.condition(0, 0), place);
            due("its value", x.place(place, VALUE), 7);
            due("no other place", x.count(7), 7);
            if (place > 0) {
                due("the letter of a right place", of("a-" + (char) ('a' + place) + "=7").condition(0, 1), place);
            }
        }
        due("the letter of the first right place", of("j-a=7").condition(0, 1), 0);
        due("none", of("j=7").condition(0, 1), -1);
    }

    private static void valuesHaveEnds() {
        StrengthLayout x = of("a>-2000;b<2000;c>1000;d<-1000;e>1001;f<-1001;g>999;h<-999");
        duePlaces("least", x, LEAST, -1000, -1000, 1000, -1000, -1000, -1000, 999, -1000, -1000);
        duePlaces("greatest", x, GREATEST, 1000, 1000, 1000, -1000, 1000, 1000, 1000, -999, 1000);
        duePlaces("value", x, VALUE, 0, 0, 1000, -1000, 0, 0, 999, -999, 0);
        dueConditions("filled", x, FILLED, 1, 1, 1, 1, 0, 0, 1, 1);
    }

    // ---- conditions

    /** By sign, whether it holds with a value just below the number, at it, and just above it. */
    private static final int[][] HOLDING = {{1, 1, 0}, {0, 1, 0}, {0, 1, 1}};

    private static void signsWithoutRight() {
        for (int number : new int[] {-999, -1, 0, 1, 999}) {
            StrengthLayout x = new StrengthLayout();
            for (int sign = 0; sign < 3; sign++) {
                x.add(0, -1, sign, number, 0);
            }
            for (int beside = -1; beside <= 1; beside++) {
                x.edit(0, number + beside, 3);
                for (int sign = 0; sign < 3; sign++) {
                    due("sign " + sign + ", " + beside + " beside " + number, x.condition(sign, HOLDS),
                            HOLDING[sign][beside + 1]);
                    due("and filled", x.condition(sign, FILLED), HOLDING[sign][beside + 1]);
                }
            }
        }
    }

    private static void signsWithRight() {
        for (int number : new int[] {-1999, -1000, -1, 0, 1, 1000, 1999}) {
            StrengthLayout x = new StrengthLayout();
            for (int sign = 0; sign < 3; sign++) {
                x.add(1, 0, sign, number, 0);
            }
            for (int beside = -1; beside <= 1; beside++) {
                int difference = number + beside;
                int right = -difference / 2;
                x.edit(0, right, 3);
                x.edit(1, right + difference, 3);
                for (int sign = 0; sign < 3; sign++) {
                    due("sign " + sign + ", " + beside + " beside " + number, x.condition(sign, HOLDS),
                            HOLDING[sign][beside + 1]);
                    due("and filled", x.condition(sign, FILLED), HOLDING[sign][beside + 1]);
                }
            }
        }
    }

    // ---- edits

    private static void oneEditOfAPlace() {
        StrengthLayout x = new StrengthLayout();
        x.edit(5, 1, 0);
        x.edit(3, 2, 0);
        x.edit(5, 3, 1);
        x.edit(3, 4, 2);
        x.edit(5, 5, 3);
        due("two edits", x.count(2), 2);
        due("in the order in which they came", x.edited(0, 0), 5);
        due("the wish of the first", x.edited(0, 1), 5);
        due("its strength", x.edited(0, 2), 3);
        due("the second", x.edited(1, 0), 3);
        due("the wish of the second", x.edited(1, 1), 4);
        due("its strength", x.edited(1, 2), 2);
    }

    private static void editsCountAsConditions() {
        StrengthLayout x = of("a-b=10;c<0");
        x.edit(0, 30, 2);
        due("where conditions are filled", x.edited(0, 3), 1);
        due("for ranges", x.place(0, LEAST), 30);
        due("for ranges", x.place(1, GREATEST), 20);
        due("for ranges of differences", x.widest(0, 2), 1030);
        due("when places settle", x.place(1, VALUE), 20);
        x.settleFrom(-7);
        due("when places settle anew", x.place(0, VALUE), 30);
        x.edit(2, 1, 0);
        due("an edit is unfilled where it cannot hold", x.edited(1, 3), 0);
        due("then it does not count", x.place(2, GREATEST), 0);
        x.edit(2, 1, 1);
        due("of the same strength it goes before", x.edited(1, 3), 1);
        due("and the condition is unfilled", x.condition(1, FILLED), 0);
        due("and does not hold", x.condition(1, HOLDS), 0);
    }

    private static void editsAreNotCounted() {
        StrengthLayout x = of("a<5;a>1");
        x.edit(0, 3, 0);
        x.edit(1, 3, 0);
        due("conditions", x.count(0), 2);
        due("filled conditions", x.count(1), 2);
        due("conditions that hold", x.count(6), 2);
        due("conditions with a", x.place(0, 4), 2);
        due("conditions with b", x.place(1, 4), 0);
        due("the others without one", x.ifRemoved(0), 1);
        due("add numbers without them", x.add(2, -1, 1, 0, 0), 2);
    }

    // ---- filling

    private static void strongerOnesFirst() {
        StrengthLayout x = of("a=1!0;a=2!1;a=3!2;a=4!3");
        dueConditions("the order", x, TURN, 3, 2, 1, 0);
        dueConditions("the strongest is filled", x, FILLED, 0, 0, 0, 1);
        x.remove(3);
        dueConditions("then the next one", x, FILLED, 0, 0, 1);
        x.remove(2);
        dueConditions("then the next one", x, FILLED, 0, 1);
        x.remove(1);
        dueConditions("then the weakest", x, FILLED, 1);
    }

    private static void editsFirstOfTheSameStrength() {
        for (int strength = 0; strength <= 3; strength++) {
            StrengthLayout x = of("a=1!" + strength);
            for (int of = 0; of <= 3; of++) {
                x.edit(0, 2, of);
                due("edit of " + of + " before a condition of " + strength, x.edited(0, 3), of >= strength ? 1 : 0);
                due("its turn", x.condition(0, TURN), of >= strength ? 1 : 0);
                due("a", x.place(0, VALUE), of >= strength ? 2 : 1);
            }
        }
        StrengthLayout two = of("a-b=0!3");
        two.edit(1, 8, 2);
        two.edit(0, 9, 2);
        due("of the edits the first one", two.place(0, VALUE), 8);
        due("the second one is unfilled", two.edited(1, 3), 0);
    }

    private static void lowerNumbersFirst() {
        StrengthLayout x = of("a=1;a=2;a=3");
        dueConditions("the order", x, TURN, 0, 1, 2);
        dueConditions("the first is filled", x, FILLED, 1, 0, 0);
        x.remove(0);
        dueConditions("the order then", x, TURN, 0, 1);
        dueConditions("the first is filled then", x, FILLED, 1, 0);
    }

    /** 16 conditions and three edits: the last one has turn 18. */
    private static void allTurns() {
        StrengthLayout x = new StrengthLayout();
        for (int k = 0; k < 16; k++) {
            x.add(0, -1, 0, 2000, 3 - k % 4);
        }
        x.edit(1, 0, 3);
        x.edit(2, 0, 0);
        x.edit(3, 0, 2);
        dueConditions("turns", x, TURN, 1, 6, 10, 15, 2, 7, 11, 16, 3, 8, 12, 17, 4, 9, 13, 18);
    }

    private static void filledUpToTheEnds() {
        dueConditions("one place", of("a=1000!3", "a=-1000!0", "b=-1000", "c=1001", "c=-1001"), FILLED, 1, 0, 1, 0, 0);
        dueConditions("at most", of("a<-1000;b<-1001"), FILLED, 1, 0);
        dueConditions("at least", of("a>1000;b>1001"), FILLED, 1, 0);
        dueConditions("two places", of("a-b=2000;c-d=-2000;e-f>2000;g-h<-2000"), FILLED, 1, 1, 1, 1);
        StrengthLayout x = of("a<999", "a-b=2000", "a-b=1999", "b>-1000");
        dueConditions("with an end just out of reach", x, FILLED, 1, 0, 1, 1);
        duePlaces("only just", x, VALUE, 999, -1000);
    }

    /** Nine differences of 222 are 1998, and 2000 is all that there is. */
    private static StrengthLayout chain() {
        return of("b-a>222!2;c-b>222!2;d-c>222!2;e-d>222!2;f-e>222!2", "g-f>222!2;h-g>222!2;i-h>222!2;j-i>222!2");
    }

    private static void filledOverAllPlaces() {
        StrengthLayout x = chain();
        due("all are filled", x.count(1), 9);
        duePlaces("least", x, LEAST, -1000, -778, -556, -334, -112, 110, 332, 554, 776, 998);
        duePlaces("greatest", x, GREATEST, -998, -776, -554, -332, -110, 112, 334, 556, 778, 1000);
        due("widest", x.widest(0, 9), -1998);
        x.setNumber(4, 224);
        due("up to the end", x.count(1), 9);
        due("each place has one value", x.count(5), 10);
        x.setNumber(4, 225);
        due("and not beyond", x.count(1), 8);
        due("the last one is unfilled", x.condition(8, FILLED), 0);
        due("by 1", x.condition(8, MARGIN), -1);
    }

    private static void unfilledOnesDoNotCount() {
        StrengthLayout x = of("a<10;a>11;a>12;a-b=5;b>6;b<5");
        dueConditions("filled", x, FILLED, 1, 0, 0, 1, 0, 1);
        due("the range of a", x.place(0, LEAST), -995);
        due("the range of a", x.place(0, GREATEST), 10);
        StrengthLayout alone = of("a>5;a<4;a<3;a=7");
        dueConditions("two that do not count", alone, FILLED, 1, 0, 0, 1);
    }

    /** Each of them holds with values of some places, but not all with the same ones. */
    private static void fillingLooksAtAllPlaces() {
        dueConditions("round three places", of("a-b>1;b-c>1;c-a>-2"), FILLED, 1, 1, 1);
        dueConditions("round three places, 1 too far", of("a-b>1;b-c>1;c-a>-1"), FILLED, 1, 1, 0);
        dueConditions("from end to end", of("a<0;a-b>1;b-c>1;c>-2"), FILLED, 1, 1, 1, 1);
        dueConditions("from end to end, 1 too far", of("a<0;a-b>1;b-c>1;c>-1"), FILLED, 1, 1, 1, 0);
        dueConditions("equal ones", of("a-b=1;b-c=1;a-c=2;c-a=-2;a-c=3"), FILLED, 1, 1, 1, 1, 0);
    }

    private static void ranges() {
        StrengthLayout x = of("a>-3;a<3;b-a=10;c-b<0;c-a>10");
        duePlaces("least", x, LEAST, -3, 7, 7, -1000);
        duePlaces("greatest", x, GREATEST, 3, 13, 13, 1000);
        x.edit(2, 8, 0);
        duePlaces("least with an edit", x, LEAST, -2, 8, 8, -1000);
        duePlaces("greatest with an edit", x, GREATEST, -2, 8, 8, 1000);
        due("places with one value", x.count(5), 3);
    }

    // ---- settling

    private static void greaterStaysFirst() {
        for (int stay = 0; stay < 9; stay++) {
            StrengthLayout x = new StrengthLayout();
            x.setStay(0, stay);
            x.setStay(9, stay + 1);
            x.add(9, 0, 1, 60, 1);
            due("j stays with a stay of " + (stay + 1), x.place(9, VALUE), 0);
            due("a gives way with " + stay, x.place(0, VALUE), -60);
        }
        StrengthLayout ends = new StrengthLayout();
        ends.setStay(0, 0);
        ends.setStay(9, 9);
        ends.add(0, 5, 1, 7, 1);
        ends.add(9, 5, 1, 70, 1);
        due("9 goes before 5", ends.place(9, VALUE), 0);
        due("5 goes behind 9", ends.place(5, VALUE), -70);
        due("0 goes last", ends.place(0, VALUE), -63);
    }

    private static void lowerPlacesFirst() {
        for (int place = 0; place < 9; place++) {
            StrengthLayout x = new StrengthLayout();
            x.add(place + 1, place, 1, 60, 1);
            due("the lower place stays", x.place(place, VALUE), 0);
            due("the next one gives way", x.place(place + 1, VALUE), 60);
        }
    }

    private static void nearestValue() {
        StrengthLayout x = of("a>-5;a<5");
        int[][] nearest = {{-1000, -5}, {-6, -5}, {-5, -5}, {-4, -4}, {0, 0}, {4, 4}, {5, 5}, {6, 5}, {1000, 5}};
        for (int[] pair : nearest) {
            x.settleFrom(pair[0]);
            due("nearest to " + pair[0], x.place(0, VALUE), pair[1]);
            due("the value before, where all is free", x.place(9, VALUE), pair[0]);
        }
    }

    private static void settledOnesKeepTheirValues() {
        StrengthLayout x = of("b-a>100;c-b>100");
        duePlaces("a first, then b, then c", x, VALUE, 0, 100, 200);
        x.settleFrom(1000);
        duePlaces("a goes as far as the others can follow", x, VALUE, 800, 900, 1000);
        x.setStay(2, 6);
        x.settleFrom(0);
        duePlaces("c first, then a, then b", x, VALUE, -200, -100, 0);
        x.setStay(1, 9);
        x.settleFrom(0);
        duePlaces("b first, then c, then a", x, VALUE, -100, 0, 100);
        x.settleFrom(-1000);
        duePlaces("b first, with room for a", x, VALUE, -1000, -900, -800);
    }

    private static void fillingAfterEachChange() {
        StrengthLayout x = of("a<5");
        x.add(0, -1, 2, 6, 2);
        dueConditions("add", x, FILLED, 0, 1);
        x.setStrength(0, 3);
        dueConditions("setStrength", x, FILLED, 1, 0);
        x.setNumber(1, 5);
        dueConditions("setNumber", x, FILLED, 1, 1);
        x.edit(0, 6, 3);
        dueConditions("edit", x, FILLED, 0, 1);
        x.endEdits();
        dueConditions("endEdits", x, FILLED, 1, 1);
        x.undo();
        dueConditions("undo", x, FILLED, 0, 1);
        x.remove(0);
        dueConditions("remove", x, FILLED, 1);
        write(x, "a>6!1;a<6!0");
        x.load();
        dueConditions("load", x, FILLED, 1, 1, 1);
    }

    // ---- conflicts

    private static int marginOf(String before, String asked) {
        StrengthLayout x = of((before + asked).split("\\|"));
        return x.condition(x.count(0) - 1, MARGIN);
    }

    private static void dueMargins(String before, String sign, int[][] margins) {
        for (int[] pair : margins) {
            String asked = sign + pair[0] + "!0";
            due("margin of " + asked + " behind " + before, marginOf(before, asked), pair[1]);
        }
    }

    private static void marginsOfEqual() {
        dueMargins("", "a=", new int[][] {{-2000, 1000}, {-1001, 1}, {-1000, 2000}, {0, 2000}, {1000, 2000}, {1001, -1},
            {2000, -1000}});
        dueMargins("", "a-b=", new int[][] {{-2000, 4000}, {0, 4000}, {2000, 4000}});
        dueMargins("a>3;a<4|", "a=", new int[][] {{2, 1}, {3, 1}, {4, 1}, {5, -1}});
        dueMargins("a=3|", "a=", new int[][] {{2, 1}, {3, 0}, {4, -1}});
    }

    private static void marginsOfAtMost() {
        dueMargins("", "a<", new int[][] {{-2000, 1000}, {-1001, 1}, {-1000, 2000}, {-999, 1999}, {999, 1}, {1000, 0},
            {1001, 0}, {2000, 0}});
        dueMargins("", "a-b<", new int[][] {{-2000, 4000}, {1999, 1}, {2000, 0}});
        dueMargins("a>3;a<4|", "a<", new int[][] {{2, 1}, {3, 1}, {4, 0}, {5, 0}});
    }

    private static void marginsOfAtLeast() {
        dueMargins("", "a>", new int[][] {{-2000, 0}, {-1001, 0}, {-1000, 0}, {-999, 1}, {999, 1999}, {1000, 2000},
            {1001, -1}, {2000, -1000}});
        dueMargins("", "a-b>", new int[][] {{-2000, 0}, {-1999, 1}, {2000, 4000}});
        dueMargins("a>3;a<4|", "a>", new int[][] {{2, 0}, {3, 0}, {4, 1}, {5, -1}});
    }

    private static void marginsByTurn() {
        StrengthLayout x = of("a<500!1", "a>0!1");
        dueConditions("by the turn", x, MARGIN, 500, 1000);
        x.setStrength(1, 3);
        dueConditions("the second one first", x, MARGIN, 500, 1000);
        x.setNumber(1, 600);
        dueConditions("not possible with it", x, MARGIN, 100, 1600);
        x.setStrength(1, 0);
        dueConditions("behind it", x, MARGIN, 500, -100);
        StrengthLayout unfilled = of("a<5;a>6;a<5");
        dueConditions("an unfilled one before does not narrow", unfilled, MARGIN, 995, -1, 0);
        StrengthLayout over = of("a-b=3;b-c=4;a-c=7;a-c=8;a-c=6;c-a=-7");
        dueConditions("over other places", over, MARGIN, 4000, 1997 + 2000, 0, -1, 1, 0);
    }

    private static void marginsOfEdits() {
        StrengthLayout x = of("a>-5!2;a<5!2");
        int[][] margins = {{-1000, 995}, {-6, 1}, {-5, 10}, {0, 10}, {5, 10}, {6, -1}, {1000, -995}};
        for (int[] pair : margins) {
            x.edit(0, pair[0], 1);
            due("margin of an edit to " + pair[0], x.edited(0, 4), pair[1]);
            x.edit(0, pair[0], 2);
            due("margin of an edit before all, to " + pair[0], x.edited(0, 4), 2000);
        }
        x.edit(0, 3, 0);
        x.setNumber(0, 3);
        x.setNumber(1, 3);
        due("margin of an edit that narrows nothing", x.edited(0, 4), 0);
    }

    private static void culpritsAlone() {
        dueConditions("one alone", of("a>5;a<4"), CULPRITS, 0, 1);
        dueConditions("each of two suffices", of("a>5;b-a>1;b<5"), CULPRITS, 0, 0, 3);
        dueConditions("two of which neither suffices", of("a>5;a>6;a<4"), CULPRITS, 0, 0, 0);
        dueConditions("an unfilled one takes its place", of("a=5;a=6;a=7"), CULPRITS, 0, 1, 0);
        dueConditions("an unfilled one is none", of("a>5;a<3;a<4"), CULPRITS, 0, 1, 1);
        dueConditions("never possible", of("b>5;a>1001"), CULPRITS, 0, 0);
        dueConditions("filled ones have none", of("a>5;a<6"), CULPRITS, 0, 0);
    }

    private static void culpritsBeforeIt() {
        dueConditions("by the order, not by the numbers", of("a<4!1;a>5!2"), CULPRITS, 2, 0);
        dueConditions("one behind it is none", of("a>5!3;a<4!2;a>6!1"), CULPRITS, 0, 1, 0);
        StrengthLayout x = of("a>5!1;a<4!1");
        x.setStrength(1, 2);
        dueConditions("after a change of strengths", x, CULPRITS, 2, 0);
        x.setNumber(1, 5);
        dueConditions("after a change of numbers", x, CULPRITS, 0, 0);
    }

    private static void culpritsAmongSixteen() {
        StrengthLayout x = chain();
        write(x, "a>-997!1");
        x.load();
        due("nine, each of them alone", x.condition(9, CULPRITS), 511);
        due("by 1", x.condition(9, MARGIN), -1);
        StrengthLayout last = new StrengthLayout();
        last.add(0, -1, 0, 4, 0);
        for (int k = 1; k < 15; k++) {
            last.add(k % 9 + 1, -1, 0, 4, 2);
        }
        last.add(0, -1, 2, 5, 3);
        due("bit 15 for condition 15", last.condition(0, CULPRITS), 1 << 15);
        due("no others", last.condition(15, CULPRITS), 0);
        due("without it all the others are filled", last.ifRemoved(15), 15);
    }

    private static void culpritsBesideEdits() {
        StrengthLayout x = of("a<4;b-a=1!2;b<0!0");
        x.edit(0, 5, 1);
        dueConditions("an edit is none, and stays", x, CULPRITS, 0, 0, 2);
        x.endEdits();
        dueConditions("without it", x, CULPRITS, 0, 0, 0);
    }

    // ---- texts

    /** For a beginning, all characters that can follow. */
    private static final String[][] GOING_ON = {
        {"", "abcdefghij"}, {"a", "-<=>"}, {"j", "-<=>"}, {"a-", "bcdefghij"}, {"e-", "abcdfghij"}, {"j-", "abcdefghi"},
        {"a-b", "<=>"}, {"j-a", "<=>"}, {"a<", "-0123456789"}, {"a=", "-0123456789"}, {"a-b>", "-0123456789"},
        {"a<-", "123456789"}, {"a<0", "!;"}, {"a<1", "0123456789!;"}, {"a<-1", "0123456789!;"},
        {"a<19", "0123456789!;"}, {"a<20", "0123456789!;"}, {"a<21", "0123456789!;"}, {"a<99", "0123456789!;"},
        {"a<199", "0123456789!;"}, {"a<200", "0!;"}, {"a<-200", "0!;"}, {"a<201", "!;"}, {"a<999", "!;"},
        {"a<1999", "!;"}, {"a<2000", "!;"}, {"a<-2000", "!;"}, {"a<0!", "0123"}, {"a<2000!", "0123"}, {"a<0!0", ";"},
        {"a<0!3", ";"}, {"a<0;", "abcdefghij"}, {"a<0!3;", "abcdefghij"}, {"a<0;b-", "acdefghij"}, {"a<0;b", "-<=>"},
        {"a<0;b<0", "!;"}, {"a-b=-7!2;b-a=-", "123456789"}};

    private static void charactersThatGoOn() {
        for (String[] pair : GOING_ON) {
            for (int code = 33; code <= 126; code++) {
                StrengthLayout x = new StrengthLayout();
                write(x, pair[0]);
                x.append(code);
                boolean right = pair[1].indexOf(code) >= 0;
                due("firstError of " + pair[0] + (char) code, x.firstError(), pair[0].length() + (right ? 1 : 0));
            }
        }
    }

    private static void usualStrength() {
        dueConditions("1 without it", of("a<0", "a<0!0", "a<0!1", "a<0!2", "a<0!3", "a-b=7"), 4, 1, 0, 1, 2, 3, 1);
        dueConditions("none is left from the one before", of("a<0!3;a<0;a<0!0;a<0"), 4, 3, 1, 0, 1);
    }

    private static void numbersOfTexts() {
        int[] numbers = {0, 1, -1, 9, 10, -10, 199, 200, 201, 999, 1000, -1000, 1999, -1999, 2000, -2000};
        List<String> texts = new ArrayList<>();
        for (int number : numbers) {
            texts.add("a-b<" + number);
        }
        dueConditions("numbers", of(texts.toArray(new String[0])), 3, numbers);
        dueConditions("none is left from the one before", of("a<-5;a<5;a-b<0;a<7"), 3, -5, 5, 0, 7);
        dueConditions("nor its right place", of("a-b<0;a<7"), 1, 1, -1);
        dueConditions("signs", of("a<0;a=0;a>0"), 2, 0, 1, 2);
    }

    private static void loadSettlesOnce() {
        duePlaces("one by one", of("a>10", "a<5!2"), VALUE, 5);
        duePlaces("with all of them", of("a>10;a<5!2"), VALUE, 0);
    }

    // ---- undo

    private static void savedAndNotSaved() {
        StrengthLayout x = of("a>3!2");
        x.edit(1, 7, 3);
        x.setStay(2, 9);
        write(x, "b<");
        x.settleFrom(50);
        x.setStay(2, 0);
        x.edit(1, 8, 0);
        x.setNumber(0, 60);
        x.setStrength(0, 0);
        write(x, "1");
        for (int left = 7; left >= 3; left--) {
            due("undo", x.undo(), left);
        }
        duePlaces("values are saved", x, VALUE, 3, 7, 0);
        due("stays are saved", x.place(2, 1), 9);
        dueConditions("the numbers of conditions are saved", x, 3, 3);
        dueConditions("their strengths are saved", x, 4, 2);
        due("edits are saved", x.edited(0, 1), 7);
        due("their strengths are saved", x.edited(0, 2), 3);
        due("the buffer is not", x.clearBuffer(), 3);
    }
}
