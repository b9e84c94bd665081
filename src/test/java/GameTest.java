/** Promises 1 to 6. */
public final class GameTest {
    private static final int LOW = Integer.MIN_VALUE;
    private static final int HIGH = Integer.MAX_VALUE;

    public static void main(String[] args) {
        newObject();
        begin();
        beginAnew();
        beginWrong();
        rows();
        colourAt();
        mark();
        allowLies();
        allowLiesWithHidden();
        Check.end();
    }

    private static GuessMarks game(int places, int colours) {
        GuessMarks x = new GuessMarks();
        x.begin(places, colours);
        return x;
    }

    private static void newObject() {
        GuessMarks x = new GuessMarks();
        Check.due("1: rows()", 64, x::rows);
        Check.due("1: colourAt(63, 2)", 3, () -> x.colourAt(63, 2));
        Check.noIndex("1: colourAt(63, 3)", () -> x.colourAt(63, 3));
        Check.due("1: entries()", 0, x::entries);
        Check.due("1: left()", 64, x::left);
        Check.due("1: leftByAll()", 64, x::leftByAll);
        Check.badState("1: takeBack()", x::takeBack);
        Check.badState("1: guess(0)", () -> x.guess(0));
        Check.due("1: allowLies(0)", 0, () -> x.allowLies(0));
        Check.no("1: hide(63)", () -> x.hide(63));
        GuessMarks y = new GuessMarks();
        y.tell(0, 30);
        Check.due("1: left() of another object", 64, x::left);
        Check.same("1: a new object is as one begun", State.of(game(3, 4)), State.of(new GuessMarks()));
    }

    private static void begin() {
        int[][] games = {
            {1, 2, 2}, {1, 6, 6}, {2, 2, 4}, {2, 6, 36}, {3, 3, 27}, {3, 5, 125}, {3, 6, 216}, {4, 2, 16},
            {4, 3, 81}, {4, 4, 256}, {5, 2, 32}, {5, 3, 243}, {6, 2, 64}, {7, 2, 128}, {8, 2, 256}
        };
        for (int[] each : games) {
            GuessMarks x = new GuessMarks();
            String call = "2: begin(" + each[0] + ", " + each[1] + ")";
            Check.due(call, each[2], () -> x.begin(each[0], each[1]));
            Check.due(call + " rows()", each[2], x::rows);
            Check.due(call + " left()", each[2], x::left);
            Check.due(call + " last colour", each[1] - 1, () -> x.colourAt(each[2] - 1, each[0] - 1));
            Check.noIndex(call + " place too many", () -> x.colourAt(0, each[0]));
            Check.noIndex(call + " row too many", () -> x.colourAt(each[2], 0));
        }
    }

    private static void beginAnew() {
        GuessMarks x = game(2, 3);
        x.allowLies(2);
        x.hide(5);
        x.tell(0, 20);
        x.guess(1);
        Check.due("2: begin(2, 3) again", 9, () -> x.begin(2, 3));
        Check.same("2: nothing is kept", State.of(game(2, 3)), State.of(x));
        Check.badState("2: guess(0), no row hidden", () -> x.guess(0));
        Check.due("2: allowLies(1), none before", 0, () -> x.allowLies(1));
        Check.no("2: hide(4), none before", () -> x.hide(4));
        x.begin(4, 4);
        x.tell(255, 0);
        x.begin(2, 2);
        x.begin(4, 4);
        Check.due("2: liesAbout(255)", 0, () -> x.liesAbout(255));
        Check.due("2: left()", 256, x::left);
    }

    private static void beginWrong() {
        Refused refused = new Refused("two told", () -> {
            GuessMarks x = game(2, 3);
            x.allowLies(1);
            x.hide(5);
            x.tell(0, 20);
            x.guess(3);
            return x;
        });
        int[][] wrong = {
            {0, 2}, {-1, 2}, {9, 2}, {1, 1}, {1, 0}, {1, -1}, {1, 7}, {8, 3}, {6, 3}, {5, 4}, {4, 5}, {4, 6},
            {0, 0}, {LOW, 2}, {HIGH, 2}, {1, LOW}, {1, HIGH}, {32, 2}, {HIGH, HIGH}, {LOW, LOW}, {8, 6}
        };
        for (int[] each : wrong) {
            refused.badArgument("2: begin(" + each[0] + ", " + each[1] + ")", x -> x.begin(each[0], each[1]));
        }
    }

    private static void rows() {
        GuessMarks x = game(5, 3);
        Check.due("3: rows()", 243, x::rows);
        x.tell(0, 50);
        Check.due("3: rows() when few are left", 243, x::rows);
    }

    private static void colourAt() {
        GuessMarks x = game(3, 4);
        int[] of27 = {1, 2, 3};
        for (int place = 0; place < 3; place++) {
            int at = place;
            Check.due("4: colourAt(27, " + at + ")", of27[at], () -> x.colourAt(27, at));
        }
        Check.due("4: colourAt(16, 0)", 1, () -> x.colourAt(16, 0));
        Check.due("4: colourAt(16, 2)", 0, () -> x.colourAt(16, 2));
        int[] wrong = {-1, 64, LOW, HIGH, 255, 256};
        for (int row : wrong) {
            Check.noIndex("4: colourAt(" + row + ", 0)", () -> x.colourAt(row, 0));
            Check.noIndex("4: colourAt(" + row + ", 9)", () -> x.colourAt(row, 9));
        }
        int[] wrongPlaces = {-1, 3, 7, LOW, HIGH};
        for (int place : wrongPlaces) {
            Check.noIndex("4: colourAt(0, " + place + ")", () -> x.colourAt(0, place));
        }
        x.begin(8, 2);
        Check.due("4: colourAt(128, 0)", 1, () -> x.colourAt(128, 0));
        Check.due("4: colourAt(128, 7)", 0, () -> x.colourAt(128, 7));
        Check.due("4: colourAt(1, 7)", 1, () -> x.colourAt(1, 7));
        x.begin(3, 6);
        Check.due("4: colourAt(215, 1)", 5, () -> x.colourAt(215, 1));
        Check.due("4: colourAt(102, 1)", 5, () -> x.colourAt(102, 1));
    }

    private static void mark() {
        GuessMarks x = game(3, 4);
        Check.due("5: mark(27, 27)", 30, () -> x.mark(27, 27));
        Check.due("5: mark(27, 45), 123 and 231", 3, () -> x.mark(27, 45));
        Check.due("5: mark(6, 9), 012 and 021", 12, () -> x.mark(6, 9));
        Check.due("5: mark(0, 63)", 0, () -> x.mark(0, 63));
        Check.due("5: mark(1, 4), 001 and 010", 12, () -> x.mark(1, 4));
        Check.due("5: mark(1, 16), 001 and 100", 12, () -> x.mark(1, 16));
        Check.due("5: mark(5, 16), 011 and 100", 2, () -> x.mark(5, 16));
        Check.due("5: mark(0, 5), 000 and 011", 10, () -> x.mark(0, 5));
        Check.due("5: mark(1, 47), 001 and 233", 0, () -> x.mark(1, 47));
        Check.due("5: mark(1, 18), 001 and 102", 11, () -> x.mark(1, 18));
        Check.due("5: mark(1, 22), 001 and 112", 1, () -> x.mark(1, 22));
        int[] wrong = {-1, 64, LOW, HIGH};
        for (int row : wrong) {
            Check.noIndex("5: mark(" + row + ", 0)", () -> x.mark(row, 0));
            Check.noIndex("5: mark(0, " + row + ")", () -> x.mark(0, row));
        }
        x.begin(8, 2);
        Check.due("5: mark(85, 170)", 8, () -> x.mark(85, 170));
        Check.due("5: mark(255, 255)", 80, () -> x.mark(255, 255));
        Check.due("5: mark(0, 255)", 0, () -> x.mark(0, 255));
        Check.due("5: mark(128, 1)", 62, () -> x.mark(128, 1));
        Check.due("5: mark(0, 1)", 70, () -> x.mark(0, 1));
    }

    private static void allowLies() {
        GuessMarks x = game(2, 3);
        int before = 0;
        int[] told = {0, 3, 2, 1, 1, 0};
        for (int lies : told) {
            Check.due("6: allowLies(" + lies + ")", before, () -> x.allowLies(lies));
            before = lies;
        }
        x.tell(0, 20);
        x.tell(4, 20);
        Check.due("6: left() without lies", 0, x::left);
        x.allowLies(1);
        Check.due("6: left() with a lie", 2, x::left);
        Check.due("6: leftAt(1)", 4, () -> x.leftAt(1));
        x.allowLies(2);
        Check.due("6: left() with two lies", 9, x::left);
        Check.due("6: leftAt(1)", 1, () -> x.leftAt(1));
        String state = State.of(x);
        int[] wrong = {-1, 4, LOW, HIGH};
        for (int lies : wrong) {
            Check.badArgument("6: allowLies(" + lies + ")", () -> x.allowLies(lies));
            State.unchanged("allowLies", state, x);
        }
        Check.due("6: allowLies(0), no row hidden", 2, () -> x.allowLies(0));
        Check.due("6: left()", 0, x::left);
    }

    private static void allowLiesWithHidden() {
        GuessMarks x = game(2, 3);
        x.allowLies(3);
        x.hide(5);
        x.tell(0, 20);
        x.tell(0, 20);
        String state = State.of(x);
        Check.badState("6: allowLies(1), two are lies", () -> x.allowLies(1));
        State.unchanged("allowLies(1)", state, x);
        Check.badArgument("6: allowLies(-1), range comes first", () -> x.allowLies(-1));
        Check.due("6: allowLies(2)", 3, () -> x.allowLies(2));
        x.takeBack();
        Check.due("6: allowLies(1)", 2, () -> x.allowLies(1));
        Check.badState("6: allowLies(0)", () -> x.allowLies(0));
        x.takeBack();
        Check.due("6: allowLies(0)", 1, () -> x.allowLies(0));
    }
}
