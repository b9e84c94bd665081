/** Promises 19 to 25. */
public final class GuessesTest {
    private static final int[] NO_ROWS = {-1, 9, 255, 256, Integer.MIN_VALUE, Integer.MAX_VALUE};

    public static void main(String[] args) {
        partsOfAll();
        partsOfSome();
        partsOfEightPlaces();
        eachCallPartsAnew();
        partsOfNone();
        partsWrong();
        bestGuess();
        rulesDiffer();
        bestGuessOfTies();
        bestGuessWrong();
        guessesNeeded();
        guessesNeededAtItsBound();
        Check.end();
    }

    private static GuessMarks game(int places, int colours) {
        GuessMarks x = new GuessMarks();
        x.begin(places, colours);
        return x;
    }

    /** Guess 1, that is 0 1: 00 10, 01 20, 02 10, 10 2, 11 10, 12 1, 20 1, 21 10, 22 0. */
    private static void partsOfAll() {
        GuessMarks x = game(2, 3);
        Check.due("19: parts(1)", 5, () -> x.parts(1));
        int[] marks = {10, 20, 2, 1, 0};
        int[] sizes = {4, 1, 1, 2, 1};
        for (int i = 0; i < 5; i++) {
            int part = i;
            Check.due("20: partMark(1, " + part + ")", marks[part], () -> x.partMark(1, part));
            Check.due("21: partSize(1, " + marks[part] + ")", sizes[part], () -> x.partSize(1, marks[part]));
        }
        Check.due("22: worstCase(1)", 4, () -> x.worstCase(1));
        Check.due("23: weight(1)", 16 + 1 + 1 + 4 + 1, () -> x.weight(1));
        Check.due("19: parts(0)", 3, () -> x.parts(0));
        Check.due("22: worstCase(0)", 4, () -> x.worstCase(0));
        Check.due("23: weight(0)", 1 + 16 + 16, () -> x.weight(0));
        Check.due("21: partSize(0, 2), possible but of no row", 0, () -> x.partSize(0, 2));
        x.begin(4, 4);
        Check.due("19: parts(27)", 12, () -> x.parts(27));
        Check.due("22: worstCase(27)", 60, () -> x.worstCase(27));
        Check.due("23: weight(27)", 9270, () -> x.weight(27));
    }

    /** By mark 10 of guess 1 the rows 00, 02, 11 and 21 are left. */
    private static void partsOfSome() {
        GuessMarks x = game(2, 3);
        x.tell(1, 10);
        Check.due("19: parts(2), 02: 10, 20, 0, 1", 4, () -> x.parts(2));
        Check.due("20: partMark(2, 0)", 10, () -> x.partMark(2, 0));
        Check.due("20: partMark(2, 1)", 20, () -> x.partMark(2, 1));
        Check.due("20: partMark(2, 2)", 0, () -> x.partMark(2, 2));
        Check.due("20: partMark(2, 3)", 1, () -> x.partMark(2, 3));
        Check.noIndex("20: partMark(2, 4)", () -> x.partMark(2, 4));
        Check.due("21: partSize(2, 20)", 1, () -> x.partSize(2, 20));
        Check.due("21: partSize(2, 2)", 0, () -> x.partSize(2, 2));
        Check.due("22: worstCase(2)", 1, () -> x.worstCase(2));
        Check.due("23: weight(2)", 4, () -> x.weight(2));
        Check.due("22: worstCase(0), 00: 20, 10, 0, 0", 2, () -> x.worstCase(0));
        Check.due("23: weight(0)", 1 + 1 + 4, () -> x.weight(0));
        Check.due("19: parts(1), all have the mark that was told", 1, () -> x.parts(1));
        Check.due("23: weight(1)", 16, () -> x.weight(1));
        x.allowLies(1);
        Check.due("22: worstCase(1), with a lie all are left", 4, () -> x.worstCase(1));
        Check.due("19: parts(1), with a lie all are left", 5, () -> x.parts(1));
    }

    /** Guess 0 has k black pins with the rows of which k places have colour 0: 8 over k of them. */
    private static void partsOfEightPlaces() {
        GuessMarks x = game(8, 2);
        int[] sizes = {1, 8, 28, 56, 70, 56, 28, 8, 1};
        int weight = 0;
        for (int i = 0; i < 9; i++) {
            int black = i;
            Check.due("21: partSize(0, " + 10 * black + ")", sizes[black], () -> x.partSize(0, 10 * black));
            weight += sizes[black] * sizes[black];
        }
        int due = weight;
        Check.due("23: weight(0), eight places", due, () -> x.weight(0));
        Check.due("22: worstCase(0), eight places", 70, () -> x.worstCase(0));
        Check.due("19: parts(0), eight places", 9, () -> x.parts(0));
        Check.due("20: partMark(0, 0), eight places", 80, () -> x.partMark(0, 0));
        Check.due("20: partMark(0, 8), eight places", 0, () -> x.partMark(0, 8));
        Check.due("20: partMark(255, 8), eight places", 80, () -> x.partMark(255, 8));
        x.tell(15, 80);
        Check.due("24: bestGuess(0), one row of eight places left", 15, () -> x.bestGuess(0));
    }

    /** Each call is about another guess than the call before it. */
    private static void eachCallPartsAnew() {
        GuessMarks x = game(2, 3);
        x.parts(0);
        Check.due("20: partMark(1, 1) after parts(0)", 20, () -> x.partMark(1, 1));
        Check.due("20: partMark(0, 1) after partMark(1, 1)", 10, () -> x.partMark(0, 1));
        Check.due("21: partSize(1, 1) after partMark(0, 1)", 2, () -> x.partSize(1, 1));
        Check.due("22: worstCase(0) after partSize(1, 1)", 4, () -> x.worstCase(0));
        Check.due("23: weight(1) after worstCase(0)", 23, () -> x.weight(1));
        Check.due("19: parts(0) after weight(1)", 3, () -> x.parts(0));
        Check.due("23: weight(1) after parts(0)", 23, () -> x.weight(1));
        x.bestGuess(0);
        Check.due("22: worstCase(1) after bestGuess(0)", 4, () -> x.worstCase(1));
        x.tell(1, 10);
        Check.due("22: worstCase(2) after tell(1, 10)", 1, () -> x.worstCase(2));
    }

    private static void partsOfNone() {
        GuessMarks x = game(2, 2);
        x.tell(0, 0);
        x.tell(3, 0);
        Check.due("19: parts(0)", 0, () -> x.parts(0));
        Check.noIndex("20: partMark(0, 0)", () -> x.partMark(0, 0));
        Check.due("21: partSize(0, 0)", 0, () -> x.partSize(0, 0));
        Check.due("22: worstCase(0)", 0, () -> x.worstCase(0));
        Check.due("23: weight(0)", 0, () -> x.weight(0));
    }

    private static void partsWrong() {
        GuessMarks x = game(2, 3);
        x.tell(1, 10);
        String state = State.of(x);
        for (int row : NO_ROWS) {
            Check.noIndex("19: parts(" + row + ")", () -> x.parts(row));
            Check.noIndex("20: partMark(" + row + ", 0)", () -> x.partMark(row, 0));
            Check.noIndex("21: partSize(" + row + ", 0)", () -> x.partSize(row, 0));
            Check.noIndex("21: partSize(" + row + ", 11), the row comes first", () -> x.partSize(row, 11));
            Check.noIndex("22: worstCase(" + row + ")", () -> x.worstCase(row));
            Check.noIndex("23: weight(" + row + ")", () -> x.weight(row));
        }
        int[] noMarks = {-1, 3, 11, 12, 21, 30, 80, 81, Integer.MIN_VALUE, Integer.MAX_VALUE};
        for (int mark : noMarks) {
            Check.badArgument("21: partSize(0, " + mark + ")", () -> x.partSize(0, mark));
        }
        int[] noParts = {-1, 4, 80, 81, Integer.MIN_VALUE, Integer.MAX_VALUE};
        for (int part : noParts) {
            Check.noIndex("20: partMark(2, " + part + ")", () -> x.partMark(2, part));
        }
        State.unchanged("wrong calls", state, x);
    }

    private static void bestGuess() {
        GuessMarks x = game(4, 4);
        Check.due("24: bestGuess(0), 0012 of 4 places and 4 colours", 6, () -> x.bestGuess(0));
        x.begin(3, 3);
        for (int rule = 0; rule < 3; rule++) {
            int by = rule;
            Check.due("24: bestGuess(" + by + ")", 1, () -> x.bestGuess(by));
        }
    }

    /** Answers of the plain model where the rules disagree, or the best guess is not left. */
    private static void rulesDiffer() {
        GuessMarks x = game(3, 3);
        x.allowLies(1);
        x.tell(1, 12);
        x.tell(0, 10);
        Check.due("24: bestGuess(0), each rule has its own", 4, () -> x.bestGuess(0));
        Check.due("24: bestGuess(1), each rule has its own", 8, () -> x.bestGuess(1));
        Check.due("24: bestGuess(2), each rule has its own", 3, () -> x.bestGuess(2));
        x.begin(3, 3);
        x.tell(5, 20);
        Check.due("24: bestGuess(0), not left", 0, () -> x.bestGuess(0));
        Check.due("24: bestGuess(1), not left", 9, () -> x.bestGuess(1));
        Check.due("24: bestGuess(2), not left", 9, () -> x.bestGuess(2));
        Check.no("24: isLeft(0)", () -> x.isLeft(0));
        Check.no("24: isLeft(9)", () -> x.isLeft(9));
        x.begin(7, 2);
        Check.due("24: bestGuess(0), seven places", 1, () -> x.bestGuess(0));
        Check.due("24: bestGuess(1), seven places", 3, () -> x.bestGuess(1));
        Check.due("24: bestGuess(2), seven places", 3, () -> x.bestGuess(2));
    }

    private static void bestGuessOfTies() {
        GuessMarks x = game(1, 6);
        x.tell(0, 0);
        for (int rule = 0; rule < 3; rule++) {
            int by = rule;
            Check.due("24: bestGuess(" + by + "), the lowest that is left", 1, () -> x.bestGuess(by));
        }
        x.tell(1, 0);
        x.tell(2, 0);
        x.tell(3, 0);
        x.tell(4, 0);
        for (int rule = 0; rule < 3; rule++) {
            int by = rule;
            Check.due("24: bestGuess(" + by + "), the one row that is left", 5, () -> x.bestGuess(by));
        }
    }

    private static void bestGuessWrong() {
        GuessMarks x = game(2, 2);
        int[] wrong = {-1, 3, Integer.MIN_VALUE, Integer.MAX_VALUE};
        for (int rule : wrong) {
            Check.badArgument("24: bestGuess(" + rule + ")", () -> x.bestGuess(rule));
        }
        x.tell(0, 0);
        x.tell(3, 0);
        String state = State.of(x);
        for (int rule = 0; rule < 3; rule++) {
            int by = rule;
            Check.badState("24: bestGuess(" + by + "), no row left", () -> x.bestGuess(by));
        }
        Check.badArgument("24: bestGuess(3), no row left", () -> x.bestGuess(3));
        State.unchanged("bestGuess", state, x);
    }

    private static void guessesNeeded() {
        GuessMarks x = game(1, 6);
        Check.due("25: guessesNeeded(), one place, six colours", 6, x::guessesNeeded);
        x.tell(0, 0);
        Check.due("25: guessesNeeded(), five left", 5, x::guessesNeeded);
        x.tell(0, 10);
        Check.badState("25: guessesNeeded(), no row left", x::guessesNeeded);
        x.allowLies(1);
        Check.due("25: guessesNeeded(), all left by a lie", 6, x::guessesNeeded);
        x.begin(2, 3);
        Check.due("25: guessesNeeded()", 4, x::guessesNeeded);
        x.tell(5, 20);
        Check.due("25: guessesNeeded(), one row left", 1, x::guessesNeeded);
        x.begin(2, 2);
        Check.due("25: guessesNeeded()", 3, x::guessesNeeded);
        x.begin(3, 3);
        x.tell(5, 12);
        Check.due("25: guessesNeeded(), 7, 11 and 21 are parted by 1", 2, x::guessesNeeded);
    }

    private static void guessesNeededAtItsBound() {
        GuessMarks x = game(2, 5);
        String state = State.of(x);
        Check.badState("25: guessesNeeded(), 25 rows left", x::guessesNeeded);
        State.unchanged("guessesNeeded", state, x);
        x.begin(3, 5);
        x.tell(7, 2);
        Check.due("25: left()", 24, x::left);
        Check.due("25: guessesNeeded(), 24 rows left", 3, x::guessesNeeded);
        GuessMarks six = game(3, 6);
        six.tell(8, 11);
        Check.due("25: left() of six colours", 24, six::left);
        String before = State.of(six);
        Check.due("25: guessesNeeded(), 24 rows left of six colours", 4, six::guessesNeeded);
        Check.due("25: guessesNeeded() again", 4, six::guessesNeeded);
        GuessMarks asked = game(3, 6);
        asked.tell(8, 11);
        asked.guessesNeeded();
        State.unchanged("guessesNeeded", before, asked);
    }
}
