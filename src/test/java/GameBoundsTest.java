/** The sentences of promises 1 to 6 that name a boundary case, each with a test of its own. */
public final class GameBoundsTest {
    private static final int LOW = Integer.MIN_VALUE;
    private static final int HIGH = Integer.MAX_VALUE;

    public static void main(String[] args) {
        newGame();
        newNothingTold();
        newNoneHidden();
        beginNothingTold();
        beginNoLies();
        beginNoneHidden();
        beginRefusedKeepsAll();
        placesInRange();
        coloursInRange();
        noMoreThan256Rows();
        beginAnyPair();
        beginTellsRows();
        rowsOfAllGames();
        colourAtFirstPlace();
        colourAtNoRow();
        colourAtNoPlace();
        markNoRow();
        liesInRange();
        liesAllowedBefore();
        liesAboutHidden();
        liesAboutNoHidden();
        Check.end();
    }

    private static void newGame() {
        Check.sentence("1: Begins a game of 3 places and 4 colours");
        GuessMarks x = new GuessMarks();
        Check.due("rows()", 64, x::rows);
        Check.due("colourAt(63, 2)", 3, () -> x.colourAt(63, 2));
        Check.noIndex("colourAt(63, 3)", () -> x.colourAt(63, 3));
        Check.noIndex("colourAt(64, 2)", () -> x.colourAt(64, 2));
        Check.due("left()", 64, x::left);
        Check.due("leftAt(63)", 63, () -> x.leftAt(63));
        Check.noIndex("leftAt(64)", () -> x.leftAt(64));
        Check.due("tell(63, 30)", 1, () -> x.tell(63, 30));
    }

    private static void newNothingTold() {
        Check.sentence("1: nothing was told");
        GuessMarks x = new GuessMarks();
        Check.due("entries()", 0, x::entries);
        Check.noIndex("guessOf(0)", () -> x.guessOf(0));
        Check.noIndex("markOf(0)", () -> x.markOf(0));
        Check.noIndex("isInProof(0)", () -> x.isInProof(0) ? 1 : 0);
        Check.badState("takeBack()", x::takeBack);
        for (int row = 0; row < 64; row++) {
            int about = row;
            Check.due("liesAbout(" + about + ")", 0, () -> x.liesAbout(about));
        }
    }

    private static void newNoneHidden() {
        Check.sentence("1: and no row is hidden");
        GuessMarks x = new GuessMarks();
        Check.badState("guess(0)", () -> x.guess(0));
        x.tell(0, 0);
        Check.due("tell(0, 30), which no hidden row allows", 0, () -> x.tell(0, 30));
        Check.no("hide(0)", () -> new GuessMarks().hide(0));
    }

    /** A full object: lies are allowed, a row is hidden, all entries are told. */
    private static GuessMarks full() {
        GuessMarks x = Games.begun(2, 3);
        x.allowLies(3);
        x.hide(5);
        for (int i = 0; i < 10; i++) {
            x.tell(i % 9, i < 3 ? 20 : x.mark(i % 9, 5));
        }
        return x;
    }

    private static void beginNothingTold() {
        Check.sentence("2: Begins a game; nothing was told");
        Games.each((places, colours, rows) -> {
            String game = Games.name(places, colours);
            GuessMarks x = full();
            x.begin(places, colours);
            Check.due(game + "entries()", 0, x::entries);
            Check.noIndex(game + "guessOf(0)", () -> x.guessOf(0));
            Check.noIndex(game + "markOf(0)", () -> x.markOf(0));
            Check.badState(game + "takeBack()", x::takeBack);
            Check.due(game + "left()", rows, x::left);
            Check.due(game + "leftByAll()", rows, x::leftByAll);
            for (int row = 0; row < rows; row++) {
                int about = row;
                Check.due(game + "liesAbout(" + about + ")", 0, () -> x.liesAbout(about));
            }
        });
    }

    private static void beginNoLies() {
        Check.sentence("2: no lies are allowed");
        GuessMarks x = full();
        x.begin(2, 3);
        Check.due("tell(5, 20), no lie", 1, () -> x.tell(5, 20));
        Check.due("allowLies(1)", 0, () -> x.allowLies(1));
    }

    private static void beginNoneHidden() {
        Check.sentence("2: and no row is hidden");
        GuessMarks x = full();
        x.begin(2, 3);
        Check.badState("guess(5)", () -> x.guess(5));
        Check.due("tell(0, 20), a lie about the row that was hidden", 1, () -> x.tell(0, 20));
        Check.no("hide(0)", () -> x.hide(0));
    }

    private static void beginRefusedKeepsAll() {
        Check.sentence("2: Throws .. (nothing has changed)");
        Refused full = new Refused("all told", GameBoundsTest::full);
        int[][] wrong = {{0, 2}, {9, 2}, {1, 1}, {1, 7}, {4, 5}, {8, 3}, {LOW, HIGH}, {32, 2}};
        for (int[] each : wrong) {
            full.badArgument("begin(" + each[0] + ", " + each[1] + ")", x -> x.begin(each[0], each[1]));
        }
    }

    private static void beginRefused(int places, int colours) {
        String call = "begin(" + places + ", " + colours + ")";
        GuessMarks x = new GuessMarks();
        Check.badArgument(call, () -> x.begin(places, colours));
        Check.due("rows() after " + call, 64, x::rows);
    }

    private static void beginDue(int places, int colours, int rows) {
        String call = "begin(" + places + ", " + colours + ")";
        GuessMarks x = new GuessMarks();
        Check.due(call, rows, () -> x.begin(places, colours));
        Check.due("rows() after " + call, rows, x::rows);
    }

    private static void placesInRange() {
        Check.sentence("2: places: 1 to 8");
        for (int colours = 2; colours <= 6; colours++) {
            beginDue(1, colours, colours);
            int[] wrong = {0, -1, -2, 9, 10, LOW, HIGH};
            for (int places : wrong) {
                beginRefused(places, colours);
            }
        }
        beginDue(8, 2, 256);
    }

    private static void coloursInRange() {
        Check.sentence("2: colours: 2 to 6");
        int[] wrong = {1, 0, -1, -2, 7, 16, 256, LOW, HIGH};
        for (int colours : wrong) {
            beginRefused(1, colours);
            beginRefused(2, colours);
        }
        beginRefused(8, 1);
        beginDue(1, 2, 2);
        beginDue(1, 6, 6);
        beginDue(3, 6, 216);
    }

    private static void noMoreThan256Rows() {
        Check.sentence("2: or there would be more than 256 rows");
        beginDue(8, 2, 256);
        beginDue(4, 4, 256);
        beginDue(5, 3, 243);
        int[][] more = {{6, 3}, {4, 5}, {5, 4}, {4, 6}, {7, 3}, {8, 3}, {8, 4}, {8, 5}, {8, 6}, {6, 6}};
        for (int[] each : more) {
            beginRefused(each[0], each[1]);
        }
    }

    /** So many places or colours are among these that the number of rows wraps around to 0 or below. */
    private static void beginAnyPair() {
        Check.sentence("2: Throws IllegalArgumentException if ..: any other pair");
        boolean[][] isGame = new boolean[9][7];
        Games.each((places, colours, rows) -> isGame[places][colours] = true);
        for (int places = -2; places <= 70; places++) {
            for (int colours = -9; colours <= 70; colours++) {
                boolean isSmall = places > 0 && places < 9 && colours > 0 && colours < 7;
                if (!isSmall || !isGame[places][colours]) {
                    beginRefused(places, colours);
                }
            }
        }
        beginRefused(LOW, LOW);
        beginRefused(HIGH, HIGH);
        beginRefused(2, 65536);
        beginRefused(4, 256);
        beginRefused(65536, 2);
    }

    private static void beginTellsRows() {
        Check.sentence("2: Returns how many rows there are: from 2 to 256");
        Games.each(GameBoundsTest::beginDue);
    }

    private static void rowsOfAllGames() {
        Check.sentence("3: Returns how many rows there are: whatever is told");
        Games.each((places, colours, rows) -> {
            GuessMarks x = Games.begun(places, colours);
            String game = Games.name(places, colours);
            x.tell(0, 10 * places);
            Check.due(game + "rows(), one left", rows, x::rows);
            x.tell(1, 10 * places);
            Check.due(game + "rows(), none left", rows, x::rows);
        });
    }

    private static void colourAtFirstPlace() {
        Check.sentence("4: place: 0 for the first place");
        Games.each((places, colours, rows) -> {
            GuessMarks x = Games.begun(places, colours);
            String game = Games.name(places, colours);
            int lowest = rows / colours;
            Check.due(game + "the last row with colour 0 first", 0, () -> x.colourAt(lowest - 1, 0));
            Check.due(game + "the first row with colour 1 first", 1, () -> x.colourAt(lowest, 0));
            Check.due(game + "the last row at the first place", colours - 1, () -> x.colourAt(rows - 1, 0));
            Check.due(game + "the last row at the last place", colours - 1, () -> x.colourAt(rows - 1, places - 1));
            Check.due(game + "row 1 at the last place", 1, () -> x.colourAt(1, places - 1));
        });
    }

    private static void colourAtNoRow() {
        Check.sentence("4: Throws IndexOutOfBoundsException if there is no such row");
        Games.each((places, colours, rows) -> {
            GuessMarks x = Games.begun(places, colours);
            int[] wrong = {-1, rows, rows + 1, 256, LOW, HIGH};
            for (int row : wrong) {
                Check.noIndex(Games.name(places, colours) + "colourAt(" + row + ", 0)", () -> x.colourAt(row, 0));
            }
        });
    }

    private static void colourAtNoPlace() {
        Check.sentence("4: Throws IndexOutOfBoundsException if there is .. no such place");
        Games.each((places, colours, rows) -> {
            GuessMarks x = Games.begun(places, colours);
            int[] wrong = {-1, places, places + 1, 8, 10, 11, LOW, HIGH};
            for (int place : wrong) {
                Check.noIndex(Games.name(places, colours) + "colourAt(0, " + place + ")", () -> x.colourAt(0, place));
            }
        });
    }

    private static void markNoRow() {
        Check.sentence("5: Throws IndexOutOfBoundsException if there is no row one, or no row other");
        Games.each((places, colours, rows) -> {
            GuessMarks x = Games.begun(places, colours);
            String game = Games.name(places, colours);
            int[] wrong = {-1, rows, rows + 1, 256, LOW, HIGH};
            for (int row : wrong) {
                Check.noIndex(game + "mark(" + row + ", 0)", () -> x.mark(row, 0));
                Check.noIndex(game + "mark(0, " + row + ")", () -> x.mark(0, row));
                Check.noIndex(game + "mark(" + row + ", " + row + ")", () -> x.mark(row, row));
            }
        });
    }

    private static void liesInRange() {
        Check.sentence("6: lies: 0 to 3");
        for (int lies = 0; lies <= 3; lies++) {
            int allowed = lies;
            Check.due("allowLies(" + allowed + ")", 0, () -> new GuessMarks().allowLies(allowed));
        }
        Refused three = new Refused("all lies allowed", () -> allowing(3));
        Refused none = new Refused("no lies allowed", () -> allowing(0));
        int[] wrong = {-1, 4, 5, LOW, HIGH};
        for (int lies : wrong) {
            three.badArgument("allowLies(" + lies + ")", x -> x.allowLies(lies));
            none.badArgument("allowLies(" + lies + ")", x -> x.allowLies(lies));
        }
    }

    private static GuessMarks allowing(int lies) {
        GuessMarks x = Games.begun(2, 3);
        x.allowLies(lies);
        x.tell(0, 10);
        return x;
    }

    private static void liesAllowedBefore() {
        Check.sentence("6: Returns how many were allowed before");
        for (int before = 0; before <= 3; before++) {
            for (int after = 0; after <= 3; after++) {
                GuessMarks x = new GuessMarks();
                x.allowLies(before);
                int lies = after;
                Check.due("allowLies(" + lies + ")", before, () -> x.allowLies(lies));
                Check.due("allowLies(0)", lies, () -> x.allowLies(0));
            }
        }
    }

    private static GuessMarks withLiesAboutHidden(int lies) {
        GuessMarks x = Games.begun(2, 3);
        x.allowLies(3);
        x.hide(5);
        x.tell(5, 20);
        for (int i = 0; i < lies; i++) {
            x.tell(0, 20);
        }
        return x;
    }

    private static void liesAboutHidden() {
        Check.sentence("6: Throws IllegalStateException if more entries than that are lies about the hidden row");
        for (int told = 0; told <= 3; told++) {
            int lies = told;
            Refused refused = new Refused(lies + " lies told", () -> withLiesAboutHidden(lies));
            for (int allowed = 0; allowed <= 3; allowed++) {
                int few = allowed;
                String call = "allowLies(" + few + ")";
                if (few < lies) {
                    refused.badState(call, x -> x.allowLies(few));
                } else {
                    GuessMarks x = withLiesAboutHidden(lies);
                    Check.due(call + ", " + lies + " lies told", 3, () -> x.allowLies(few));
                    Check.yes("isLeft(5)", () -> x.isLeft(5));
                }
            }
        }
    }

    /** Lies about a row that is not hidden, or no more hidden, or that were taken back, do not count. */
    private static void liesAboutNoHidden() {
        Check.sentence("6: .. about the hidden row");
        GuessMarks none = Games.begun(2, 3);
        none.tell(0, 20);
        none.tell(1, 20);
        Check.due("allowLies(0), no row hidden, none left", 0, () -> none.allowLies(0));
        GuessMarks other = withLiesAboutHidden(3);
        other.hide(0);
        Check.due("allowLies(1), another row hidden by now", 3, () -> other.allowLies(1));
        Check.badState("allowLies(0), one lie about that row", () -> other.allowLies(0));
        GuessMarks back = withLiesAboutHidden(1);
        back.takeBack();
        Check.due("allowLies(0), the lie taken back", 3, () -> back.allowLies(0));
    }
}
