/** Promises 15 to 18. */
public final class LeftTest {
    public static void main(String[] args) {
        counts();
        isLeft();
        leftAt();
        Check.end();
    }

    private static void bothDue(String when, int due, GuessMarks x) {
        Check.due("15: left() " + when, due, x::left);
        Check.due("16: leftByAll() " + when, due, x::leftByAll);
    }

    private static void counts() {
        GuessMarks x = new GuessMarks();
        bothDue("at first", 64, x);
        x.begin(3, 3);
        bothDue("after begin", 27, x);
        x.hide(7);
        x.guess(5);
        bothDue("after a guess", 3, x);
        x.tell(0, 10);
        bothDue("after a mark", 3, x);
        x.allowLies(1);
        bothDue("with a lie", 12, x);
        x.allowLies(2);
        bothDue("with two lies", 27, x);
        x.allowLies(0);
        bothDue("without lies", 3, x);
        x.takeBack();
        x.takeBack();
        bothDue("with all taken back", 27, x);
        x.begin(2, 2);
        x.tell(0, 0);
        x.tell(3, 0);
        bothDue("with no row left", 0, x);
    }

    private static void isLeft() {
        GuessMarks x = new GuessMarks();
        x.begin(2, 3);
        x.tell(0, 0);
        int left = 0;
        for (int i = 0; i < 9; i++) {
            int row = i;
            boolean due = row == 4 || row == 5 || row == 7 || row == 8;
            Check.due("17: isLeft(" + row + ")", due ? 1 : 0, () -> x.isLeft(row) ? 1 : 0);
            left += x.isLeft(row) ? 1 : 0;
        }
        Check.due("17: as many as left()", left, x::left);
        x.allowLies(1);
        Check.yes("17: isLeft(0), a lie allowed", () -> x.isLeft(0));
        x.tell(4, 20);
        Check.no("17: isLeft(0), two lies", () -> x.isLeft(0));
        Check.yes("17: isLeft(5), one lie", () -> x.isLeft(5));
        int[] wrong = {-1, 9, 255, 256, Integer.MIN_VALUE, Integer.MAX_VALUE};
        for (int row : wrong) {
            Check.noIndex("17: isLeft(" + row + ")", () -> x.isLeft(row) ? 1 : 0);
        }
    }

    private static void leftAt() {
        GuessMarks x = new GuessMarks();
        Check.due("18: leftAt(0)", 0, () -> x.leftAt(0));
        Check.due("18: leftAt(63)", 63, () -> x.leftAt(63));
        Check.noIndex("18: leftAt(64)", () -> x.leftAt(64));
        x.begin(2, 3);
        x.tell(0, 0);
        int[] due = {4, 5, 7, 8};
        for (int i = 0; i < 4; i++) {
            int place = i;
            Check.due("18: leftAt(" + place + ")", due[place], () -> x.leftAt(place));
        }
        int[] wrong = {-1, 4, 8, 9, 256, Integer.MIN_VALUE, Integer.MAX_VALUE};
        for (int place : wrong) {
            Check.noIndex("18: leftAt(" + place + ")", () -> x.leftAt(place));
        }
        x.tell(0, 20);
        Check.noIndex("18: leftAt(0), no row left", () -> x.leftAt(0));
        x.begin(8, 2);
        Check.due("18: leftAt(255)", 255, () -> x.leftAt(255));
        Check.noIndex("18: leftAt(256)", () -> x.leftAt(256));
    }
}
