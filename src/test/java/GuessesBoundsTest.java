import java.util.ArrayList;
import java.util.List;

/** The sentences of promises 19 to 25 that name a boundary case, each with a test of its own. */
public final class GuessesBoundsTest {
    private static final int LOW = Integer.MIN_VALUE;
    private static final int HIGH = Integer.MAX_VALUE;
    private static final int[] NO_ROWS = {-1, 9, 10, 255, 256, LOW, HIGH};

    public static void main(String[] args) {
        partsFromNoneToAll();
        partsNoRow();
        partMarkByLowestRows();
        partMarkFirst();
        partMarkNoRow();
        partMarkNotSoMany();
        partSizeNone();
        partSizeNoRow();
        partSizeImpossible();
        worstCaseNone();
        worstCaseFromOneToAll();
        worstCaseNoRow();
        weightFromNoneToAll();
        weightNoRow();
        ruleInRange();
        bestNoneLeft();
        bestOfAllRows();
        bestOneLeftBefore();
        bestLowest();
        bestOfOneLeft();
        neededNoneLeft();
        neededNoMoreThan24();
        neededOfOne();
        neededOfMost();
        neededOfThePart();
        neededLiesKnown();
        Check.end();
    }

    /** Rows 4, 5, 7 and 8 are left. */
    private static GuessMarks some() {
        GuessMarks x = Games.begun(2, 3);
        x.tell(0, 0);
        return x;
    }

    private static GuessMarks none() {
        GuessMarks x = Games.begun(2, 3);
        x.tell(0, 20);
        x.tell(1, 20);
        return x;
    }

    private static GuessMarks one(int row) {
        GuessMarks x = Games.begun(2, 3);
        x.tell(row, 20);
        return x;
    }

    /** Of one place and six colours, the first rows so many are left. */
    private static GuessMarks leaving(int rows) {
        GuessMarks x = Games.begun(1, 6);
        for (int row = rows; row < 6; row++) {
            x.tell(row, 0);
        }
        return x;
    }

    private static void partsFromNoneToAll() {
        Check.sentence("19: Returns how many parts a guess makes: from none to one for each row");
        for (int guess = 0; guess < 9; guess++) {
            int row = guess;
            Check.due("parts(" + row + "), no row left", 0, () -> none().parts(row));
            Check.due("parts(" + row + "), one row left", 1, () -> one(4).parts(row));
        }
        Check.due("parts(1), all of two rows", 2, () -> Games.begun(1, 2).parts(1));
        GuessMarks each = Games.begun(2, 3);
        each.tell(1, 10);
        Check.due("parts(2), each row a part of its own", 4, () -> each.parts(2));
        Check.due("parts(1), all rows one part", 1, () -> each.parts(1));
        Check.due("parts(27), all of 256 rows", 12, () -> Games.begun(4, 4).parts(27));
    }

    private static void partsNoRow() {
        Check.sentence("19: Throws IndexOutOfBoundsException if there is no such row");
        Refused some = new Refused("some left", GuessesBoundsTest::some);
        Refused none = new Refused("none left", GuessesBoundsTest::none);
        for (int row : NO_ROWS) {
            some.noIndex("parts(" + row + ")", x -> x.parts(row));
            none.noIndex("parts(" + row + ")", x -> x.parts(row));
        }
        Games.each((places, colours, rows) -> {
            GuessMarks x = Games.begun(places, colours);
            Check.noIndex(Games.name(places, colours) + "parts of one row too many", () -> x.parts(rows));
            Check.yes(Games.name(places, colours) + "parts of the last row", () -> x.parts(rows - 1) >= 2);
        });
    }

    private static void partMarkByLowestRows() {
        Check.sentence("20: parts come in the order of the lowest rows in them");
        Games.each((places, colours, rows) -> {
            GuessMarks marks = Games.begun(places, colours);
            int guess = rows * 2 / 3;
            List<Integer> due = new ArrayList<>();
            for (int row = 0; row < rows; row++) {
                int mark = marks.mark(guess, row);
                if (!due.contains(mark)) {
                    due.add(mark);
                }
            }
            GuessMarks x = Games.begun(places, colours);
            String call = Games.name(places, colours) + "partMark(" + guess + ", ";
            for (int i = 0; i < due.size(); i++) {
                int part = i;
                Check.due(call + part + ")", due.get(part), () -> x.partMark(guess, part));
            }
            Check.noIndex(call + due.size() + ")", () -> x.partMark(guess, due.size()));
        });
    }

    private static void partMarkFirst() {
        Check.sentence("20: part: 0 for the first part");
        for (int i = 0; i < 9; i++) {
            int row = i;
            GuessMarks x = some();
            Check.due("partMark(" + row + ", 0), row 4 the lowest", x.mark(row, 4), () -> x.partMark(row, 0));
            GuessMarks y = one(8);
            Check.due("partMark(" + row + ", 0), row 8 alone", y.mark(row, 8), () -> y.partMark(row, 0));
        }
    }

    private static void partMarkNoRow() {
        Check.sentence("20: Throws IndexOutOfBoundsException if there is no such row");
        Refused some = new Refused("some left", GuessesBoundsTest::some);
        for (int row : NO_ROWS) {
            some.noIndex("partMark(" + row + ", 0)", x -> x.partMark(row, 0));
            some.noIndex("partMark(" + row + ", -1)", x -> x.partMark(row, -1));
        }
        Games.each((places, colours, rows) -> {
            GuessMarks x = Games.begun(places, colours);
            Check.noIndex(Games.name(places, colours) + "partMark, one row too many", () -> x.partMark(rows, 0));
        });
    }

    private static void partMarkNotSoMany() {
        Check.sentence("20: Throws IndexOutOfBoundsException if .. the guess does not make so many parts");
        Refused some = new Refused("four left", GuessesBoundsTest::some);
        for (int guess = 0; guess < 9; guess++) {
            int row = guess;
            int parts = some().parts(row);
            Check.due("a mark at the last part", 0, () -> some().partMark(row, parts - 1) < 0 ? 1 : 0);
            int[] wrong = {-1, parts, parts + 1, 4, 80, 81, 256, LOW, HIGH};
            for (int part : wrong) {
                some.noIndex("partMark(" + row + ", " + part + ")", x -> x.partMark(row, part));
            }
        }
        Refused none = new Refused("none left", GuessesBoundsTest::none);
        none.noIndex("partMark(0, 0)", x -> x.partMark(0, 0));
        Refused one = new Refused("one left", () -> one(4));
        one.noIndex("partMark(0, 1)", x -> x.partMark(0, 1));
    }

    private static void partSizeNone() {
        Check.sentence("21: Returns the size of the part with a mark, 0 if there is none");
        int[] marks = {0, 1, 2, 10, 20};
        for (int mark : marks) {
            Check.due("partSize(3, " + mark + "), no row left", 0, () -> none().partSize(3, mark));
            int due = one(3).mark(4, 3) == mark ? 1 : 0;
            Check.due("partSize(4, " + mark + "), one row left", due, () -> one(3).partSize(4, mark));
        }
        Check.due("partSize(0, 2), a mark of no row", 0, () -> Games.begun(2, 3).partSize(0, 2));
        Check.due("partSize(0, 20), a row that is not left", 0, () -> some().partSize(0, 20));
        Check.due("partSize(0, 0), all that are left", 4, () -> some().partSize(0, 0));
        Check.due("partSize(0, 80), eight places", 1, () -> Games.begun(8, 2).partSize(0, 80));
        Check.due("partSize(15, 8), eight places", 1, () -> Games.begun(8, 2).partSize(15, 8));
        Check.due("partSize(0, 8), eight places", 0, () -> Games.begun(8, 2).partSize(0, 8));
    }

    private static void partSizeNoRow() {
        Check.sentence("21: Throws IndexOutOfBoundsException if there is no such row");
        Refused some = new Refused("some left", GuessesBoundsTest::some);
        for (int row : NO_ROWS) {
            some.noIndex("partSize(" + row + ", 0)", x -> x.partSize(row, 0));
        }
        Games.each((places, colours, rows) -> {
            GuessMarks x = Games.begun(places, colours);
            Check.noIndex(Games.name(places, colours) + "partSize, one row too many", () -> x.partSize(rows, 0));
            Check.due(Games.name(places, colours) + "partSize of the last row", 1,
                    () -> x.partSize(rows - 1, 10 * places));
        });
    }

    private static void partSizeImpossible() {
        Check.sentence("21: Throws IllegalArgumentException if the mark is not possible");
        Refused some = new Refused("some left", GuessesBoundsTest::some);
        Refused none = new Refused("none left", GuessesBoundsTest::none);
        int[] wrong = {-20, -10, -1, 3, 9, 11, 12, 19, 21, 22, 30, 80, 81, LOW, HIGH};
        for (int mark : wrong) {
            some.badArgument("partSize(4, " + mark + ")", x -> x.partSize(4, mark));
            none.badArgument("partSize(4, " + mark + ")", x -> x.partSize(4, mark));
        }
    }

    private static void worstCaseNone() {
        Check.sentence("22: Returns the worst case of a guess, 0 if no row is left");
        GuessMarks x = none();
        for (int i = 0; i < 9; i++) {
            int row = i;
            Check.due("worstCase(" + row + ")", 0, () -> x.worstCase(row));
        }
        x.takeBack();
        Check.due("worstCase(0), a row left again", 1, () -> x.worstCase(0));
    }

    private static void worstCaseFromOneToAll() {
        Check.sentence("22: Returns the worst case of a guess: from one row to all that are left");
        for (int i = 1; i <= 6; i++) {
            int left = i;
            Check.due("worstCase(0), one of " + left, Math.max(1, left - 1), () -> leaving(left).worstCase(0));
            Check.due("worstCase(5), none of " + left, Math.max(1, left < 6 ? left : 5),
                    () -> leaving(left).worstCase(5));
        }
        Check.due("worstCase(0), the greatest part between others", 70, () -> Games.begun(8, 2).worstCase(0));
        Check.due("worstCase(0), the greatest part the last one", 108, () -> Games.begun(4, 4).worstCase(0));
        Check.due("worstCase(1), the greatest part the first one", 4, () -> Games.begun(2, 3).worstCase(1));
    }

    private static void worstCaseNoRow() {
        Check.sentence("22: Throws IndexOutOfBoundsException if there is no such row");
        Refused some = new Refused("some left", GuessesBoundsTest::some);
        Refused none = new Refused("none left", GuessesBoundsTest::none);
        for (int row : NO_ROWS) {
            some.noIndex("worstCase(" + row + ")", x -> x.worstCase(row));
            none.noIndex("worstCase(" + row + ")", x -> x.worstCase(row));
        }
        Games.each((places, colours, rows) -> {
            GuessMarks x = Games.begun(places, colours);
            Check.noIndex(Games.name(places, colours) + "worstCase, one row too many", () -> x.worstCase(rows));
            Check.yes(Games.name(places, colours) + "worstCase of the last row", () -> x.worstCase(rows - 1) > 0);
        });
    }

    private static void weightFromNoneToAll() {
        Check.sentence("23: Returns the weight of a guess: from none to all rows");
        for (int i = 0; i < 9; i++) {
            int row = i;
            Check.due("weight(" + row + "), no row left", 0, () -> none().weight(row));
            Check.due("weight(" + row + "), one row left", 1, () -> one(4).weight(row));
        }
        Check.due("weight(0), all that are left in one part", 16, () -> some().weight(0));
        Check.due("weight(0), 256 rows: 1, 8, 28, 56, 70, 56, 28, 8, 1", 12870, () -> Games.begun(8, 2).weight(0));
        Check.due("weight(0), 256 rows: 1, 12, 54, 108, 81", 21286, () -> Games.begun(4, 4).weight(0));
    }

    private static void weightNoRow() {
        Check.sentence("23: Throws IndexOutOfBoundsException if there is no such row");
        Refused some = new Refused("some left", GuessesBoundsTest::some);
        Refused none = new Refused("none left", GuessesBoundsTest::none);
        for (int row : NO_ROWS) {
            some.noIndex("weight(" + row + ")", x -> x.weight(row));
            none.noIndex("weight(" + row + ")", x -> x.weight(row));
        }
        Games.each((places, colours, rows) -> {
            GuessMarks x = Games.begun(places, colours);
            Check.noIndex(Games.name(places, colours) + "weight, one row too many", () -> x.weight(rows));
            Check.yes(Games.name(places, colours) + "weight of the last row", () -> x.weight(rows - 1) >= rows);
        });
    }

    private static void ruleInRange() {
        Check.sentence("24: rule: 0 to 2");
        Refused some = new Refused("some left", GuessesBoundsTest::some);
        int[] wrong = {-1, -2, 3, 4, LOW, HIGH};
        for (int rule : wrong) {
            some.badArgument("bestGuess(" + rule + ")", x -> x.bestGuess(rule));
        }
        int[] due = {4, 8, 3};
        for (int i = 0; i < 3; i++) {
            int rule = i;
            GuessMarks x = Games.begun(3, 3);
            x.allowLies(1);
            x.tell(1, 12);
            x.tell(0, 10);
            Check.due("bestGuess(" + rule + "), each rule its own", due[rule], () -> x.bestGuess(rule));
        }
    }

    private static void bestNoneLeft() {
        Check.sentence("24: Throws IllegalStateException if no row is left");
        Refused none = new Refused("none left", GuessesBoundsTest::none);
        for (int i = 0; i < 3; i++) {
            int rule = i;
            none.badState("bestGuess(" + rule + ")", x -> x.bestGuess(rule));
            GuessMarks x = none();
            x.allowLies(1);
            Check.yes("bestGuess(" + rule + "), left by a lie", () -> x.isLeft(x.bestGuess(rule)));
        }
    }

    /** Left are 021, 102 and 210, no one of which parts the two others; 001 does. */
    private static void bestOfAllRows() {
        Check.sentence("24: Returns the best guess of all rows: one that is not left too");
        GuessMarks x = Games.begun(3, 3);
        x.tell(5, 12);
        Check.due("left()", 3, x::left);
        Check.due("worstCase(7)", 2, () -> x.worstCase(7));
        Check.due("worstCase(11)", 2, () -> x.worstCase(11));
        Check.due("worstCase(21)", 2, () -> x.worstCase(21));
        Check.due("worstCase(1)", 1, () -> x.worstCase(1));
        for (int i = 0; i < 3; i++) {
            int rule = i;
            Check.due("bestGuess(" + rule + ")", 1, () -> x.bestGuess(rule));
        }
        GuessMarks last = Games.begun(4, 4);
        last.tell(255, 40);
        Check.due("bestGuess(0), the last of all rows", 255, () -> last.bestGuess(0));
    }

    private static void bestOneLeftBefore() {
        Check.sentence("24: of several one that is left, if there is one among them");
        for (int left = 2; left <= 6; left++) {
            GuessMarks x = Games.begun(1, 6);
            for (int row = 0; row < 6 - left; row++) {
                x.tell(row, 0);
            }
            int lowest = 6 - left;
            for (int i = 0; i < 3; i++) {
                int rule = i;
                Check.due("bestGuess(" + rule + "), " + left + " left", lowest, () -> x.bestGuess(rule));
            }
        }
        GuessMarks two = Games.begun(2, 3);
        two.tell(7, 10);
        two.tell(3, 10);
        Check.due("left(), 11 and 20", 2, two::left);
        Check.due("leftAt(0)", 4, () -> two.leftAt(0));
        Check.due("worstCase(0), as good as 4", 1, () -> two.worstCase(0));
        for (int i = 0; i < 3; i++) {
            int rule = i;
            Check.due("bestGuess(" + rule + "), 0 parts them too", 4, () -> two.bestGuess(rule));
        }
    }

    private static void bestLowest() {
        Check.sentence("24: and of several still the one with the lowest number");
        for (int i = 0; i < 3; i++) {
            int rule = i;
            Check.due("bestGuess(" + rule + "), all left, all alike", 0, () -> Games.begun(1, 6).bestGuess(rule));
            Check.due("bestGuess(" + rule + "), 1 as good as 3", 1, () -> Games.begun(3, 3).bestGuess(rule));
        }
        GuessMarks notLeft = Games.begun(3, 3);
        notLeft.tell(5, 12);
        Check.due("worstCase(0)", 3, () -> notLeft.worstCase(0));
        Check.due("worstCase(2), as good as 1, none left", 1, () -> notLeft.worstCase(2));
        Check.due("bestGuess(0)", 1, () -> notLeft.bestGuess(0));
    }

    private static void bestOfOneLeft() {
        Check.sentence("24: of several one that is left: the only one, all rows being as good");
        Games.each((places, colours, rows) -> {
            for (int i = 0; i < 3; i++) {
                int rule = i;
                GuessMarks x = Games.begun(places, colours);
                x.tell(rows - 1, 10 * places);
                Check.due(Games.name(places, colours) + "bestGuess(" + rule + ")", rows - 1, () -> x.bestGuess(rule));
            }
        });
    }

    private static void neededNoneLeft() {
        Check.sentence("25: Throws IllegalStateException if no row is left");
        Refused none = new Refused("none left", GuessesBoundsTest::none);
        none.badState("guessesNeeded()", GuessMarks::guessesNeeded);
        GuessMarks x = none();
        x.takeBack();
        Check.due("guessesNeeded(), one row left again", 1, x::guessesNeeded);
    }

    private static void neededNoMoreThan24() {
        Check.sentence("25: Throws IllegalStateException if .. more than 24 are");
        Refused all = new Refused("25 rows, all left", () -> Games.begun(2, 5));
        all.badState("guessesNeeded()", GuessMarks::guessesNeeded);
        Games.each((places, colours, rows) -> {
            if (rows > 24) {
                GuessMarks x = Games.begun(places, colours);
                Check.badState(Games.name(places, colours) + "guessesNeeded()", x::guessesNeeded);
            }
        });
        GuessMarks most = Games.begun(3, 5);
        most.tell(7, 2);
        Check.due("left()", 24, most::left);
        Check.due("guessesNeeded(), 24 left", 3, most::guessesNeeded);
        GuessMarks lies = Games.begun(3, 6);
        lies.tell(8, 11);
        Check.due("left(), six colours", 24, lies::left);
        Check.due("guessesNeeded(), 24 left of six colours", 4, lies::guessesNeeded);
        lies.allowLies(1);
        Check.badState("guessesNeeded(), all left by a lie", lies::guessesNeeded);
    }

    private static void neededOfOne() {
        Check.sentence("25: the guess that is the hidden row itself is the last one, and it counts");
        Games.each((places, colours, rows) -> {
            GuessMarks x = Games.begun(places, colours);
            x.tell(rows - 1, 10 * places);
            Check.due(Games.name(places, colours) + "guessesNeeded(), one left", 1, x::guessesNeeded);
        });
        Check.due("guessesNeeded(), two rows, all left", 2, () -> Games.begun(1, 2).guessesNeeded());
    }

    /** With one place each guess rules out one row, the last of them being guessed too. */
    private static void neededOfMost() {
        Check.sentence("25: Returns the number for the row that needs the most");
        for (int i = 1; i <= 6; i++) {
            int left = i;
            Check.due("guessesNeeded(), " + left + " left", left, () -> leaving(left).guessesNeeded());
        }
        Check.due("guessesNeeded(), 5 colours", 5, () -> Games.begun(1, 5).guessesNeeded());
        Check.due("guessesNeeded(), 2 places, 2 colours", 3, () -> Games.begun(2, 2).guessesNeeded());
        Check.due("guessesNeeded(), 2 places, 3 colours", 4, () -> Games.begun(2, 3).guessesNeeded());
        GuessMarks x = Games.begun(3, 3);
        x.tell(5, 12);
        Check.due("guessesNeeded(), each row needs the second guess", 2, x::guessesNeeded);
    }

    private static void neededOfThePart() {
        Check.sentence("25: (For rows that are left by then: those of the part, whatever is told besides.)");
        neededDue(4, 12, 0, Games.begun(7, 2), 25, 52);
        neededDue(5, 18, 0, Games.begun(7, 2), 0, 40, 30, 42);
        neededDue(5, 21, 0, Games.begun(8, 2), 8, 52);
        neededDue(5, 18, 0, Games.begun(8, 2), 0, 30, 8, 40, 173, 44);
        neededDue(3, 24, 0, Games.begun(5, 3), 85, 12, 242, 20);
    }

    private static void neededLiesKnown() {
        Check.sentence("25: and all marks are true, lies of before being known");
        neededDue(4, 13, 1, Games.begun(5, 2), 12, 22, 5, 22);
        neededDue(5, 18, 1, Games.begun(7, 2), 50, 42, 77, 34, 50, 42, 43, 70);
        neededDue(4, 24, 1, Games.begun(5, 3), 240, 11, 111, 22, 0, 10);
        GuessMarks lies = Games.begun(1, 6);
        neededDue(5, 5, 3, lies, 0, 0, 1, 0, 2, 0, 0, 0, 1, 0, 2, 0, 0, 0, 1, 0, 2, 0, 0, 0);
        Check.due("entries() afterwards", 10, lies::entries);
        Check.due("left() afterwards", 5, lies::left);
        Check.due("leftByAll() afterwards", 5, lies::leftByAll);
        Check.due("leftAt(0) afterwards", 1, () -> lies.leftAt(0));
    }

    /** The numbers are the plain model's too; told are guesses, each with its mark behind it. */
    private static void neededDue(int due, int left, int lies, GuessMarks x, int... told) {
        StringBuilder when = new StringBuilder();
        x.allowLies(lies);
        for (int i = 0; i < told.length; i += 2) {
            x.tell(told[i], told[i + 1]);
            when.append(", tell(").append(told[i]).append(", ").append(told[i + 1]).append(')');
        }
        Check.due("left()" + when, left, x::left);
        Check.due("guessesNeeded()" + when, due, x::guessesNeeded);
    }
}
