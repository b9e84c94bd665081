/** "Of several exceptions it is the first one of the throws clause", for each pair that a call can have. */
public final class OrderTest {
    private static final int[] NO_ROWS = {-1, 9, 10, 256, Integer.MIN_VALUE, Integer.MAX_VALUE};
    private static final int[] NO_MARKS = {-1, 3, 11, 12, 21, 30, Integer.MIN_VALUE, Integer.MAX_VALUE};

    public static void main(String[] args) {
        Check.sentence("of several exceptions it is the first one of the throws clause");
        Refused hiddenWithLie = new Refused("a lie about the hidden row told", OrderTest::hiddenWithLie);
        Refused full = new Refused("all entries told", OrderTest::full);
        Refused noneHidden = new Refused("no row hidden", () -> Games.begun(2, 3));
        Refused noneLeft = new Refused("no row left", OrderTest::noneLeft);
        allowLies(hiddenWithLie);
        rowBeforeState(noneLeft, noneHidden, full);
        tell(hiddenWithLie);
        tell(full);
        tellOfAnyState(noneHidden);
        partSize(noneLeft);
        partSize(noneHidden);
        bestGuess(noneLeft);
        isInProof(noneLeft, noneHidden);
        Check.end();
    }

    private static GuessMarks hiddenWithLie() {
        GuessMarks x = Games.begun(2, 3);
        x.allowLies(1);
        x.hide(5);
        x.tell(0, 20);
        return x;
    }

    private static GuessMarks full() {
        GuessMarks x = Games.begun(2, 3);
        x.hide(5);
        for (int i = 0; i < 10; i++) {
            x.guess(0);
        }
        return x;
    }

    private static GuessMarks noneLeft() {
        GuessMarks x = Games.begun(2, 3);
        x.tell(0, 20);
        x.tell(1, 20);
        return x;
    }

    /** No number is less than none, so about any hidden row there are more lies than that. */
    private static void allowLies(Refused refused) {
        refused.badArgument("allowLies(-1)", x -> x.allowLies(-1));
        refused.badArgument("allowLies(MIN_VALUE)", x -> x.allowLies(Integer.MIN_VALUE));
        refused.badState("allowLies(0)", x -> x.allowLies(0));
    }

    private static void rowBeforeState(Refused noneLeft, Refused noneHidden, Refused full) {
        for (int row : NO_ROWS) {
            noneLeft.noIndex("hide(" + row + ")", x -> x.hide(row));
            noneHidden.noIndex("guess(" + row + ")", x -> x.guess(row));
            full.noIndex("guess(" + row + ")", x -> x.guess(row));
        }
        noneLeft.badState("hide(0)", x -> x.hide(0));
        noneHidden.badState("guess(0)", x -> x.guess(0));
        full.badState("guess(0)", x -> x.guess(0));
    }

    private static void tell(Refused refused) {
        tellOfAnyState(refused);
        for (int row : NO_ROWS) {
            refused.noIndex("tell(" + row + ", 20)", x -> x.tell(row, 20));
        }
        refused.badState("tell(0, 20)", x -> x.tell(0, 20));
    }

    private static void tellOfAnyState(Refused refused) {
        for (int mark : NO_MARKS) {
            for (int row : NO_ROWS) {
                refused.noIndex("tell(" + row + ", " + mark + ")", x -> x.tell(row, mark));
            }
            refused.badArgument("tell(0, " + mark + ")", x -> x.tell(0, mark));
        }
    }

    private static void partSize(Refused refused) {
        for (int mark : NO_MARKS) {
            for (int row : NO_ROWS) {
                refused.noIndex("partSize(" + row + ", " + mark + ")", x -> x.partSize(row, mark));
            }
            refused.badArgument("partSize(0, " + mark + ")", x -> x.partSize(0, mark));
        }
    }

    private static void bestGuess(Refused noneLeft) {
        int[] noRules = {-1, 3, Integer.MIN_VALUE, Integer.MAX_VALUE};
        for (int rule : noRules) {
            noneLeft.badArgument("bestGuess(" + rule + ")", x -> x.bestGuess(rule));
        }
        noneLeft.badState("bestGuess(0)", x -> x.bestGuess(0));
    }

    private static void isInProof(Refused noneLeft, Refused noneTold) {
        int[] noEntries = {-1, 2, 9, 10, Integer.MIN_VALUE, Integer.MAX_VALUE};
        for (int entry : noEntries) {
            noneLeft.noIndex("isInProof(" + entry + ")", x -> x.isInProof(entry));
        }
        noneLeft.badState("isInProof(1)", x -> x.isInProof(1));
        noneTold.noIndex("isInProof(0)", x -> x.isInProof(0));
    }
}
