import java.util.ArrayList;
import java.util.List;

/** The document's words in their plainest form, for comparing; written apart from the class. */
public final class PlainModel {
    private int places = 3;
    private int colours = 4;
    private int lies = 0;
    private int hidden = -1;
    /** Marks by one row and another, once they were counted; 0 for not yet, else the mark plus 1. */
    private int[][] counted = new int[256][256];
    private final List<int[]> told = new ArrayList<>();

    public int begin(int newPlaces, int newColours) {
        boolean inRange = newPlaces >= 1 && newPlaces <= 8 && newColours >= 2 && newColours <= 6;
        argument(inRange && Math.round(Math.pow(newColours, newPlaces)) <= 256);
        places = newPlaces;
        colours = newColours;
        lies = 0;
        hidden = -1;
        counted = new int[256][256];
        told.clear();
        return rows();
    }

    public int rows() {
        return power(places);
    }

    private int power(int exponent) {
        int power = 1;
        for (int i = 0; i < exponent; i++) {
            power *= colours;
        }
        return power;
    }

    public int colourAt(int row, int place) {
        index(row, rows());
        index(place, places);
        return row / power(places - 1 - place) % colours;
    }

    public int mark(int one, int other) {
        index(one, rows());
        index(other, rows());
        if (counted[one][other] == 0) {
            counted[one][other] = 1 + countMark(one, other);
        }
        return counted[one][other] - 1;
    }

    private int countMark(int one, int other) {
        int black = 0;
        for (int place = 0; place < places; place++) {
            black += colourAt(one, place) == colourAt(other, place) ? 1 : 0;
        }
        int pins = 0;
        for (int colour = 0; colour < colours; colour++) {
            pins += Math.min(howOften(one, colour), howOften(other, colour));
        }
        return 10 * black + pins - black;
    }

    public int allowLies(int newLies) {
        argument(newLies >= 0 && newLies <= 3);
        state(hidden < 0 || liesAbout(hidden) <= newLies);
        int before = lies;
        lies = newLies;
        return before;
    }

    public boolean hide(int row) {
        index(row, rows());
        state(isLeft(row));
        boolean before = hidden >= 0;
        hidden = row;
        return before;
    }

    public int guess(int row) {
        index(row, rows());
        state(hidden >= 0 && told.size() < 10);
        int answer = mark(row, hidden);
        told.add(new int[] {row, answer});
        return answer;
    }

    public int tell(int row, int mark) {
        index(row, rows());
        argument(isPossible(mark));
        state(told.size() < 10);
        told.add(new int[] {row, mark});
        if (hidden >= 0 && !isLeft(hidden)) {
            told.remove(told.size() - 1);
            state(false);
        }
        return left();
    }

    public int takeBack() {
        state(!told.isEmpty());
        told.remove(told.size() - 1);
        return left();
    }

    public int entries() {
        return told.size();
    }

    public int guessOf(int entry) {
        index(entry, told.size());
        return told.get(entry)[0];
    }

    public int markOf(int entry) {
        index(entry, told.size());
        return told.get(entry)[1];
    }

    public int liesAbout(int row) {
        index(row, rows());
        return liesIn(told, row);
    }

    public int left() {
        return leftBy(told).size();
    }

    public int leftByAll() {
        return left();
    }

    public boolean isLeft(int row) {
        return liesAbout(row) <= lies;
    }

    public int leftAt(int place) {
        index(place, left());
        return leftBy(told).get(place);
    }

    public int parts(int row) {
        index(row, rows());
        return marksOf(row, leftBy(told)).size();
    }

    public int partMark(int row, int part) {
        index(row, rows());
        index(part, parts(row));
        return marksOf(row, leftBy(told)).get(part);
    }

    public int partSize(int row, int mark) {
        index(row, rows());
        argument(isPossible(mark));
        return part(row, mark, leftBy(told)).size();
    }

    public int worstCase(int row) {
        index(row, rows());
        return value(0, row, leftBy(told));
    }

    public int weight(int row) {
        index(row, rows());
        return value(1, row, leftBy(told));
    }

    public int bestGuess(int rule) {
        argument(rule >= 0 && rule <= 2);
        state(left() > 0);
        return best(rule, leftBy(told));
    }

    public int guessesNeeded() {
        state(left() > 0 && left() <= 24);
        int most = 0;
        for (int row : leftBy(told)) {
            most = Math.max(most, guessesFor(row));
        }
        return most;
    }

    public int proofSize() {
        return left() == 1 ? proof().size() : -1;
    }

    public boolean isInProof(int entry) {
        index(entry, told.size());
        state(left() == 1);
        return proof().contains(entry);
    }

    private static void index(int index, int end) {
        if (index < 0 || index >= end) {
            throw new IndexOutOfBoundsException();
        }
    }

    private static void argument(boolean isFine) {
        if (!isFine) {
            throw new IllegalArgumentException();
        }
    }

    private static void state(boolean isFine) {
        if (!isFine) {
            throw new IllegalStateException();
        }
    }

    private int howOften(int row, int colour) {
        int often = 0;
        for (int place = 0; place < places; place++) {
            often += colourAt(row, place) == colour ? 1 : 0;
        }
        return often;
    }

    private boolean isPossible(int mark) {
        for (int black = 0; black <= places; black++) {
            for (int white = 0; black + white <= places; white++) {
                if (mark == 10 * black + white && !(white == 1 && black + white == places)) {
                    return true;
                }
            }
        }
        return false;
    }

    private int liesIn(List<int[]> some, int row) {
        int count = 0;
        for (int[] entry : some) {
            count += mark(entry[0], row) != entry[1] ? 1 : 0;
        }
        return count;
    }

    private List<Integer> leftBy(List<int[]> some) {
        List<Integer> list = new ArrayList<>();
        for (int row = 0; row < rows(); row++) {
            if (liesIn(some, row) <= lies) {
                list.add(row);
            }
        }
        return list;
    }

    private List<Integer> marksOf(int guess, List<Integer> list) {
        List<Integer> marks = new ArrayList<>();
        for (int row : list) {
            if (!marks.contains(mark(guess, row))) {
                marks.add(mark(guess, row));
            }
        }
        return marks;
    }

    private List<Integer> part(int guess, int mark, List<Integer> list) {
        List<Integer> part = new ArrayList<>();
        for (int row : list) {
            if (mark(guess, row) == mark) {
                part.add(row);
            }
        }
        return part;
    }

    private int value(int rule, int guess, List<Integer> list) {
        int greatest = 0;
        int squares = 0;
        List<Integer> marks = marksOf(guess, list);
        for (int mark : marks) {
            int size = part(guess, mark, list).size();
            greatest = Math.max(greatest, size);
            squares += size * size;
        }
        return rule == 0 ? greatest : rule == 1 ? squares : -marks.size();
    }

    private int best(int rule, List<Integer> list) {
        int least = Integer.MAX_VALUE;
        List<Integer> ties = new ArrayList<>();
        for (int guess = 0; guess < rows(); guess++) {
            int value = value(rule, guess, list);
            if (value < least) {
                least = value;
                ties.clear();
            }
            if (value == least) {
                ties.add(guess);
            }
        }
        for (int guess : ties) {
            if (list.contains(guess)) {
                return guess;
            }
        }
        return ties.get(0);
    }

    private int guessesFor(int row) {
        List<Integer> list = leftBy(told);
        int guesses = 1;
        for (int guess = best(0, list); guess != row; guess = best(0, list)) {
            list = part(guess, mark(guess, row), list);
            guesses++;
        }
        return guesses;
    }

    /** Sets of one size in the order of their entries: the first one that is a proof is meant. */
    private List<Integer> proof() {
        for (int size = 0; size <= told.size(); size++) {
            List<Integer> found = proofOf(size, 0, new ArrayList<>());
            if (found != null) {
                return found;
            }
        }
        throw new AssertionError("no proof");
    }

    private List<Integer> proofOf(int size, int from, List<Integer> chosen) {
        if (size == 0) {
            List<int[]> alone = new ArrayList<>();
            for (int entry : chosen) {
                alone.add(told.get(entry));
            }
            return leftBy(alone).size() == 1 ? chosen : null;
        }
        for (int entry = from; entry < told.size(); entry++) {
            List<Integer> more = new ArrayList<>(chosen);
            more.add(entry);
            List<Integer> found = proofOf(size - 1, entry + 1, more);
            if (found != null) {
                return found;
            }
        }
        return null;
    }
}
