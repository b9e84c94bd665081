import java.util.Arrays;

/** A helper for guessing a hidden row of colours by marks. */
public final class GuessMarks {
    private static final int NONE = -1;
    private static final int MOST_ROWS = 256;
    private static final int MOST_PLACES = 8;
    private static final int LEAST_COLOURS = 2;
    private static final int MOST_COLOURS = 6;
    private static final int MOST_MARK = 10 * MOST_PLACES;
    private static final int MOST_ENTRIES = 10;
    private static final int MOST_LIES = 3;
    private static final int LEAST_WORST_CASE = 0;
    private static final int LEAST_WEIGHT = 1;
    private static final int MOST_PARTS = 2;
    private static final int MOST_SEARCHED = 24;
    /** A part of a part is smaller by one row at least: 24 + 23 + .. + 1 rows. */
    private static final int SEARCH_ROOM = MOST_SEARCHED * (MOST_SEARCHED + 1) / 2;

    private final Game game;
    private final Entries told;
    private final Parting parting;
    private final int[] rowsLeft;
    private final int[] search;
    private int leftCount;
    private int liesAllowed;
    private int hiddenRow;

    public GuessMarks() {
        game = new Game();
        told = new Entries(game);
        parting = new Parting();
        rowsLeft = new int[MOST_ROWS];
        search = new int[SEARCH_ROOM];
        game.lay(3, 4);
        tellNothing();
    }

    // ---- the game

    public int begin(int places, int colours) throws IllegalArgumentException {
        if (!game.lay(places, colours)) {
            throw new IllegalArgumentException("no such game");
        }
        tellNothing();
        return game.rows;
    }

    public int rows() {
        return game.rows;
    }

    public int colourAt(int row, int place) throws IndexOutOfBoundsException {
        if (!game.has(row) || place < 0 || place >= game.places) {
            throw new IndexOutOfBoundsException("no such row or place");
        }
        return game.colourOf(row, place);
    }

    public int mark(int one, int other) throws IndexOutOfBoundsException {
        if (!game.has(one) || !game.has(other)) {
            throw new IndexOutOfBoundsException("no such row");
        }
        return game.compare(one, other);
    }

    public int allowLies(int lies) throws IllegalArgumentException, IllegalStateException {
        if (lies < 0 || lies > MOST_LIES) {
            throw new IllegalArgumentException("lies out of range");
        }
        if (hiddenRow != NONE && told.countLies(hiddenRow) > lies) {
            throw new IllegalStateException("the hidden row would not be left");
        }
        int before = liesAllowed;
        liesAllowed = lies;
        listRowsLeft();
        return before;
    }

    private void tellNothing() {
        told.forgetAll();
        liesAllowed = 0;
        hiddenRow = NONE;
        listRowsLeft();
    }

    private void requireRow(int row) {
        if (!game.has(row)) {
            throw new IndexOutOfBoundsException("no such row");
        }
    }

    private void requirePossible(int mark) {
        if (!game.allows(mark)) {
            throw new IllegalArgumentException("the mark is not possible");
        }
    }

    // ---- what is told

    public boolean hide(int row) throws IndexOutOfBoundsException, IllegalStateException {
        requireRow(row);
        if (!remains(row)) {
            throw new IllegalStateException("the row is not left");
        }
        boolean before = hiddenRow != NONE;
        hiddenRow = row;
        return before;
    }

    public int guess(int row) throws IndexOutOfBoundsException, IllegalStateException {
        requireRow(row);
        if (hiddenRow == NONE || told.isFull()) {
            throw new IllegalStateException("no row is hidden, or all entries are told");
        }
        int answer = game.compare(row, hiddenRow);
        addEntry(row, answer);
        return answer;
    }

    public int tell(int row, int mark)
            throws IndexOutOfBoundsException, IllegalArgumentException, IllegalStateException {
        requireRow(row);
        requirePossible(mark);
        if (told.isFull() || wouldLoseHidden(row, mark)) {
            throw new IllegalStateException("all entries are told, or the hidden row would not be left");
        }
        addEntry(row, mark);
        return leftCount;
    }

    public int takeBack() throws IllegalStateException {
        if (told.count == 0) {
            throw new IllegalStateException("there is no entry");
        }
        told.dropLatest();
        listRowsLeft();
        return leftCount;
    }

    public int entries() {
        return told.count;
    }

    public int guessOf(int entry) throws IndexOutOfBoundsException {
        requireEntry(entry);
        return told.guessAt(entry);
    }

    public int markOf(int entry) throws IndexOutOfBoundsException {
        requireEntry(entry);
        return told.markAt(entry);
    }

    public int liesAbout(int row) throws IndexOutOfBoundsException {
        requireRow(row);
        return told.countLies(row);
    }

    private void requireEntry(int entry) {
        if (!told.has(entry)) {
            throw new IndexOutOfBoundsException("no such entry");
        }
    }

    private boolean wouldLoseHidden(int guess, int mark) {
        return hiddenRow != NONE
                && game.compare(guess, hiddenRow) != mark
                && told.countLies(hiddenRow) >= liesAllowed;
    }

    private void addEntry(int guess, int mark) {
        told.add(guess, mark);
        listRowsLeft();
    }

    // ---- what is left

    public int left() {
        return leftCount;
    }

    public int leftByAll() {
        int count = 0;
        for (int row = 0; row < game.rows; row++) {
            if (told.countLiesAnew(row) <= liesAllowed) {
                count++;
            }
        }
        return count;
    }

    public boolean isLeft(int row) throws IndexOutOfBoundsException {
        requireRow(row);
        return remains(row);
    }

    public int leftAt(int place) throws IndexOutOfBoundsException {
        if (place < 0 || place >= leftCount || place >= rowsLeft.length) {
            throw new IndexOutOfBoundsException("not so many rows are left");
        }
        return rowsLeft[place];
    }

    private boolean remains(int row) {
        return told.countLies(row) <= liesAllowed;
    }

    private void listRowsLeft() {
        leftCount = 0;
        for (int row = 0; row < game.rows; row++) {
            if (remains(row) && leftCount < rowsLeft.length) {
                rowsLeft[leftCount] = row;
                leftCount++;
            }
        }
    }

    // ---- guesses

    public int parts(int row) throws IndexOutOfBoundsException {
        requireRow(row);
        partLeft(row);
        return parting.count;
    }

    public int partMark(int row, int part) throws IndexOutOfBoundsException {
        requireRow(row);
        partLeft(row);
        if (!parting.has(part)) {
            throw new IndexOutOfBoundsException("the guess does not make so many parts");
        }
        return parting.markAt(part);
    }

    public int partSize(int row, int mark) throws IndexOutOfBoundsException, IllegalArgumentException {
        requireRow(row);
        requirePossible(mark);
        partLeft(row);
        return parting.sizeWith(mark);
    }

    public int worstCase(int row) throws IndexOutOfBoundsException {
        requireRow(row);
        partLeft(row);
        return parting.greatest;
    }

    public int weight(int row) throws IndexOutOfBoundsException {
        requireRow(row);
        partLeft(row);
        return parting.squares;
    }

    public int bestGuess(int rule) throws IllegalArgumentException, IllegalStateException {
        if (rule < LEAST_WORST_CASE || rule > MOST_PARTS) {
            throw new IllegalArgumentException("no such rule");
        }
        if (leftCount == 0) {
            throw new IllegalStateException("no row is left");
        }
        return bestFor(rule, rowsLeft, 0, leftCount);
    }

    public int guessesNeeded() throws IllegalStateException {
        if (leftCount < 1 || leftCount > MOST_SEARCHED) {
            throw new IllegalStateException("no row is left, or too many are");
        }
        System.arraycopy(rowsLeft, 0, search, 0, leftCount);
        return guessesFor(0, leftCount, 1);
    }

    private void partLeft(int guess) {
        partRows(guess, rowsLeft, 0, leftCount);
    }

    private void partRows(int guess, int[] list, int from, int size) {
        parting.clear();
        for (int i = from; i < from + size && i < list.length; i++) {
            parting.add(game.compare(guess, list[i]));
        }
    }

    private int bestFor(int rule, int[] list, int from, int size) {
        int best = NONE;
        int bestScore = 0;
        boolean bestIsListed = false;
        for (int guess = 0; guess < game.rows; guess++) {
            partRows(guess, list, from, size);
            int score = parting.score(rule);
            // Only the guess itself has black pins at all places with the guess.
            boolean isListed = parting.sizeWith(game.allBlack()) > 0;
            boolean winsTie = score == bestScore && isListed && !bestIsListed;
            if (best == NONE || score < bestScore || winsTie) {
                best = guess;
                bestScore = score;
                bestIsListed = isListed;
            }
        }
        return best;
    }

    /** The rows stand in search; the parts that are cut from them are put behind them. */
    private int guessesFor(int from, int size, int depth) {
        // A row that is alone is its own best guess; more levels than rows there cannot be.
        if (size <= 1 || depth >= MOST_SEARCHED) {
            return 1;
        }
        int guess = bestFor(LEAST_WORST_CASE, search, from, size);
        int most = 0;
        for (int i = from; i < from + size && i < search.length; i++) {
            if (search[i] != guess && opensPart(guess, from, i)) {
                int mark = game.compare(guess, search[i]);
                most = Math.max(most, guessesForPart(guess, mark, from, size, depth));
            }
        }
        return 1 + most;
    }

    private int guessesForPart(int guess, int mark, int from, int size, int depth) {
        int start = from + size;
        int end = start;
        for (int i = from; i < start && end < search.length; i++) {
            if (game.compare(guess, search[i]) == mark) {
                search[end] = search[i];
                end++;
            }
        }
        return guessesFor(start, end - start, depth + 1);
    }

    private boolean opensPart(int guess, int from, int place) {
        int mark = game.compare(guess, search[place]);
        for (int i = from; i < place; i++) {
            if (game.compare(guess, search[i]) == mark) {
                return false;
            }
        }
        return true;
    }

    // ---- proofs

    public int proofSize() {
        return leftCount == 1 ? Integer.bitCount(shortestProof()) : -1;
    }

    public boolean isInProof(int entry) throws IndexOutOfBoundsException, IllegalStateException {
        requireEntry(entry);
        if (leftCount != 1) {
            throw new IllegalStateException("not just one row is left");
        }
        return (shortestProof() & told.bitOf(entry)) != 0;
    }

    /** Goes down from the set of all entries: of sets of one size, the one that is meant comes first. */
    private int shortestProof() {
        int proof = told.allBits();
        for (int set = told.allBits() - 1; set > 0; set--) {
            if (Integer.bitCount(set) < Integer.bitCount(proof) && leavesOne(set)) {
                proof = set;
            }
        }
        return proof;
    }

    private boolean leavesOne(int set) {
        int count = 0;
        for (int row = 0; row < game.rows && count < 2; row++) {
            if (told.countLiesIn(set, row) <= liesAllowed) {
                count++;
            }
        }
        return count == 1;
    }

    /** The rows of a game, held as bits so that two of them are compared without a loop. */
    private static final class Game {
        private static final int PLACE_BITS = 3;
        private static final int PLACE_MASK = 7;
        /** The lowest bit of each of the eight places. */
        private static final int LOWEST_BITS = 0x249249;
        private static final int COLOUR_BITS = 8;
        private static final long COLOUR_MASK = 255L;

        int places;
        int colours;
        int rows;
        /** For each row three bits a place, the first place being the highest. */
        private final int[] colourBits = new int[MOST_ROWS];
        /** For each row eight bits a colour, so many of them set as the row has that colour. */
        private final long[] pinBits = new long[MOST_ROWS];

        /** Returns whether there is such a game; if not, nothing has changed. */
        boolean lay(int newPlaces, int newColours) {
            if (newPlaces < 1 || newPlaces > MOST_PLACES
                    || newColours < LEAST_COLOURS || newColours > MOST_COLOURS) {
                return false;
            }
            int newRows = 1;
            for (int i = 0; i < newPlaces; i++) {
                newRows *= newColours;
            }
            if (newRows > MOST_ROWS) {
                return false;
            }
            places = newPlaces;
            colours = newColours;
            rows = newRows;
            for (int row = 0; row < newRows; row++) {
                layRow(row);
            }
            return true;
        }

        private void layRow(int row) {
            int bits = 0;
            long pins = 0L;
            int rest = row;
            for (int i = 0; i < places && colours > 0; i++) {
                int colour = rest % colours;
                rest /= colours;
                bits |= colour << (PLACE_BITS * i);
                pins = withPin(pins, colour);
            }
            if (has(row)) {
                colourBits[row] = bits;
                pinBits[row] = pins;
            }
        }

        private static long withPin(long pins, int colour) {
            int shift = COLOUR_BITS * colour;
            long ofColour = (pins >> shift) & COLOUR_MASK;
            return pins | (((ofColour << 1) | 1L) << shift);
        }

        boolean has(int row) {
            return row >= 0 && row < rows && row < MOST_ROWS;
        }

        int colourOf(int row, int place) {
            if (!has(row)) {
                return 0;
            }
            return (colourBits[row] >> (PLACE_BITS * (places - 1 - place))) & PLACE_MASK;
        }

        int allBlack() {
            return 10 * places;
        }

        boolean allows(int mark) {
            if (mark < 0) {
                return false;
            }
            int black = mark / 10;
            int white = mark % 10;
            boolean oneWhiteElseBlack = white == 1 && black == places - 1;
            return black + white <= places && !oneWhiteElseBlack;
        }

        int compare(int one, int other) {
            if (!has(one) || !has(other)) {
                return 0;
            }
            int unlike = colourBits[one] ^ colourBits[other];
            int unlikePlaces = (unlike | (unlike >> 1) | (unlike >> 2)) & LOWEST_BITS;
            int black = places - Integer.bitCount(unlikePlaces);
            // The bits that both have for a colour are the lesser one of both numbers.
            int pins = Long.bitCount(pinBits[one] & pinBits[other]);
            return 10 * black + (pins - black);
        }
    }

    /** What was told. */
    private static final class Entries {
        private final Game game;
        int count;
        private final int[] guesses = new int[MOST_ENTRIES];
        private final int[] marks = new int[MOST_ENTRIES];
        /**
         * For each row a bit for each entry, set for a lie. The latest entry has the lowest bit: so
         * of two sets of entries the one with the earlier entry is the greater number.
         */
        private final int[] lieBits = new int[MOST_ROWS];

        Entries(Game game) {
            this.game = game;
        }

        void forgetAll() {
            count = 0;
            Arrays.fill(lieBits, 0);
        }

        boolean isFull() {
            return count >= MOST_ENTRIES;
        }

        boolean has(int entry) {
            return entry >= 0 && entry < count && entry < MOST_ENTRIES;
        }

        int guessAt(int entry) {
            return has(entry) ? guesses[entry] : 0;
        }

        int markAt(int entry) {
            return has(entry) ? marks[entry] : 0;
        }

        void add(int guess, int mark) {
            if (count < 0 || isFull()) {
                return;
            }
            guesses[count] = guess;
            marks[count] = mark;
            count++;
            for (int row = 0; row < game.rows && row < MOST_ROWS; row++) {
                int lie = game.compare(guess, row) == mark ? 0 : 1;
                lieBits[row] = (lieBits[row] << 1) | lie;
            }
        }

        void dropLatest() {
            count--;
            for (int row = 0; row < game.rows && row < MOST_ROWS; row++) {
                lieBits[row] >>= 1;
            }
        }

        int allBits() {
            return (1 << count) - 1;
        }

        int bitOf(int entry) {
            return has(entry) ? 1 << (count - 1 - entry) : 0;
        }

        int countLies(int row) {
            return countLiesIn(allBits(), row);
        }

        int countLiesIn(int set, int row) {
            return game.has(row) ? Integer.bitCount(lieBits[row] & set) : 0;
        }

        /** Goes by the marks alone, so that what is kept can be checked against it. */
        int countLiesAnew(int row) {
            int lies = 0;
            for (int entry = 0; entry < count && entry < MOST_ENTRIES; entry++) {
                if (game.compare(guesses[entry], row) != marks[entry]) {
                    lies++;
                }
            }
            return lies;
        }
    }

    /** How a guess parts rows. */
    private static final class Parting {
        int count;
        int greatest;
        int squares;
        private final int[] marks = new int[MOST_MARK + 1];
        private final int[] sizes = new int[MOST_MARK + 1];

        void clear() {
            count = 0;
            greatest = 0;
            squares = 0;
            Arrays.fill(sizes, 0);
        }

        void add(int mark) {
            if (mark < 0 || mark > MOST_MARK) {
                return;
            }
            if (sizes[mark] == 0 && count >= 0 && count < marks.length) {
                marks[count] = mark;
                count++;
            }
            int size = sizes[mark] + 1;
            sizes[mark] = size;
            greatest = Math.max(greatest, size);
            // The square of a size is the sum of so many odd numbers.
            squares += 2 * size - 1;
        }

        boolean has(int part) {
            return part >= 0 && part < count && part < marks.length;
        }

        int markAt(int part) {
            return has(part) ? marks[part] : 0;
        }

        int sizeWith(int mark) {
            return mark >= 0 && mark <= MOST_MARK ? sizes[mark] : 0;
        }

        /** The lesser the better. */
        int score(int rule) {
            if (rule == LEAST_WORST_CASE) {
                return greatest;
            }
            return rule == LEAST_WEIGHT ? squares : -count;
        }
    }
}
