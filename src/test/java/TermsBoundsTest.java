import java.util.TreeSet;

/** The sentences ahead of the promises that name a boundary case, each with a test of its own. */
public final class TermsBoundsTest {
    public static void main(String[] args) {
        lastOfDearCalls();
        lastOfChanges();
        firstPlaceIsHighest();
        numberedFromNought();
        atMost256();
        marksOfAllRows();
        noMorePinsThanPlaces();
        notOneWhiteElseBlack();
        noOtherMark();
        entriesFromNought();
        lieIfNotTheMark();
        asManyLiesAsAllowed();
        atFirstNoneIs();
        partIsAllRowsWithAMark();
        nothingHasChanged();
        Check.end();
    }

    private static void lastOfDearCalls() {
        Check.sentence("An object is used for at most 512 calls: dear ones");
        GuessMarks best = Games.begun(4, 4);
        for (int call = 2; call < 512; call++) {
            best.bestGuess(call % 3);
        }
        Check.due("bestGuess(0) as call 512", 6, () -> best.bestGuess(0));
        GuessMarks needed = Games.begun(3, 5);
        needed.tell(7, 2);
        for (int call = 3; call < 512; call++) {
            needed.guessesNeeded();
        }
        Check.due("guessesNeeded() as call 512", 3, needed::guessesNeeded);
        GuessMarks proof = Games.begun(4, 4);
        for (int entry = 0; entry < 10; entry++) {
            proof.tell(0, 40);
        }
        for (int call = 12; call < 512; call++) {
            proof.proofSize();
        }
        Check.due("proofSize() as call 512", 1, proof::proofSize);
    }

    private static void lastOfChanges() {
        Check.sentence("An object is used for at most 512 calls: changes");
        GuessMarks x = Games.begun(2, 3);
        for (int call = 2; call < 512; call += 2) {
            x.tell(0, 10);
            x.takeBack();
        }
        Check.due("tell(0, 10) as call 512", 4, () -> x.tell(0, 10));
        GuessMarks y = new GuessMarks();
        for (int call = 1; call < 512; call++) {
            y.begin(1 + call % 3, 6);
        }
        Check.due("begin(8, 2) as call 512", 256, () -> y.begin(8, 2));
    }

    private static void firstPlaceIsHighest() {
        Check.sentence("its number has the colours as digits, the first place being the highest digit");
        Games.each((places, colours, rows) -> {
            int[][] due = Games.colours(places, colours, rows);
            for (int row = 0; row < rows; row++) {
                GuessMarks x = Games.begun(places, colours);
                int of = row;
                for (int place = 0; place < places; place++) {
                    int at = place;
                    String call = Games.name(places, colours) + "colourAt(" + of + ", " + at + ")";
                    Check.due(call, due[of][at], () -> x.colourAt(of, at));
                }
            }
        });
    }

    private static void numberedFromNought() {
        Check.sentence("All rows are numbered from 0");
        Games.each((places, colours, rows) -> {
            GuessMarks x = Games.begun(places, colours);
            String game = Games.name(places, colours);
            Check.due(game + "mark(0, 0)", 10 * places, () -> x.mark(0, 0));
            Check.due(game + "leftAt(0)", 0, () -> x.leftAt(0));
            Check.noIndex(game + "mark(-1, -1)", () -> x.mark(-1, -1));
            Check.due(game + "mark of the last row", 10 * places, () -> x.mark(rows - 1, rows - 1));
            Check.noIndex(game + "mark of one more", () -> x.mark(rows, rows));
        });
    }

    private static void atMost256() {
        Check.sentence("there are at most 256");
        int[][] most = {{8, 2}, {4, 4}};
        for (int[] each : most) {
            GuessMarks x = Games.begun(each[0], each[1]);
            String game = Games.name(each[0], each[1]);
            Check.due(game + "rows()", 256, x::rows);
            Check.due(game + "left()", 256, x::left);
            Check.due(game + "leftAt(255)", 255, () -> x.leftAt(255));
            Check.noIndex(game + "colourAt(256, 0)", () -> x.colourAt(256, 0));
            Check.due(game + "liesAbout(255)", 0, () -> x.liesAbout(255));
            Check.due(game + "tell of the row 255", 1, () -> x.tell(255, 10 * each[0]));
            Check.yes(game + "isLeft(255)", () -> x.isLeft(255));
            Check.due(game + "bestGuess(2)", 255, () -> x.bestGuess(2));
        }
    }

    private static void marksOfAllRows() {
        Check.sentence("The mark of two rows has black pins .. and white pins, from none to all places");
        Games.each((places, colours, rows) -> {
            int[][] all = Games.colours(places, colours, rows);
            for (int one = 0; one < rows; one++) {
                GuessMarks x = Games.begun(places, colours);
                for (int other = 0; other < rows; other++) {
                    int first = one;
                    int second = other;
                    String call = Games.name(places, colours) + "mark(" + first + ", " + second + ")";
                    int due = markByStriking(all[first].clone(), all[second].clone());
                    Check.due(call, due, () -> x.mark(first, second));
                }
            }
        });
    }

    /** As people do it: strike what is at the same place, then what is elsewhere. */
    private static int markByStriking(int[] one, int[] other) {
        int mark = 0;
        for (int place = 0; place < one.length; place++) {
            if (one[place] == other[place]) {
                one[place] = -1;
                other[place] = -2;
                mark += 10;
            }
        }
        for (int place = 0; place < one.length; place++) {
            for (int elsewhere = 0; elsewhere < one.length; elsewhere++) {
                if (one[place] == other[elsewhere]) {
                    one[place] = -1;
                    other[elsewhere] = -2;
                    mark++;
                }
            }
        }
        return mark;
    }

    private static void markDue(int places, int mark, boolean isPossible) {
        GuessMarks x = Games.begun(places, 2);
        String game = Games.name(places, 2);
        if (isPossible) {
            int size = x.partSize(0, mark);
            Check.due(game + "tell(0, " + mark + ")", size, () -> x.tell(0, mark));
        } else {
            Check.badArgument(game + "partSize(0, " + mark + ")", () -> x.partSize(0, mark));
            Check.badArgument(game + "tell(0, " + mark + ")", () -> x.tell(0, mark));
            Check.due(game + "entries()", 0, x::entries);
        }
    }

    private static void noMorePinsThanPlaces() {
        Check.sentence("A mark is possible if no more pins than places are in it");
        for (int places = 1; places <= 8; places++) {
            for (int black = 0; black <= places; black++) {
                int white = places - black;
                markDue(places, 10 * black + white, white != 1);
                markDue(places, 10 * black + white + 1, false);
            }
            markDue(places, 10 * places + 10, false);
        }
    }

    private static void notOneWhiteElseBlack() {
        Check.sentence("and it is not one white pin and black pins for all other places");
        for (int places = 1; places <= 8; places++) {
            markDue(places, 10 * (places - 1) + 1, false);
            markDue(places, 10 * (places - 1), true);
            markDue(places, 10 * places, true);
            if (places > 1) {
                markDue(places, 10 * (places - 2) + 1, true);
                markDue(places, 10 * (places - 2) + 2, true);
            }
        }
    }

    private static void noOtherMark() {
        Check.sentence("A mark is possible if .., told as 10 times the black pins, plus the white ones");
        int[] extremes = {
            Integer.MIN_VALUE, Integer.MIN_VALUE + 8, Integer.MAX_VALUE, Integer.MAX_VALUE - 7, 256, 1000, -1000
        };
        for (int places = 1; places <= 8; places++) {
            TreeSet<Integer> possible = new TreeSet<>();
            for (int black = 0; black <= places; black++) {
                for (int white = 0; white <= places - black; white++) {
                    possible.add(10 * black + white);
                }
            }
            possible.remove(10 * (places - 1) + 1);
            for (int mark = -99; mark <= 199; mark++) {
                markDue(places, mark, possible.contains(mark));
            }
            for (int mark : extremes) {
                markDue(places, mark, false);
            }
        }
    }

    private static void entriesFromNought() {
        Check.sentence("What was told are entries, numbered from 0");
        GuessMarks x = Games.begun(2, 3);
        x.tell(3, 2);
        x.tell(4, 10);
        Check.due("guessOf(0)", 3, () -> x.guessOf(0));
        Check.due("markOf(0)", 2, () -> x.markOf(0));
        Check.due("guessOf(1)", 4, () -> x.guessOf(1));
        Check.due("markOf(1)", 10, () -> x.markOf(1));
        Check.noIndex("guessOf(2)", () -> x.guessOf(2));
        Check.noIndex("guessOf(-1)", () -> x.guessOf(-1));
    }

    private static void lieIfNotTheMark() {
        Check.sentence("The mark of an entry is a lie about a row, if it is not the mark of the guess and that row");
        int[] marks = {0, 1, 2, 10, 20};
        for (int guess = 0; guess < 9; guess++) {
            for (int mark : marks) {
                GuessMarks x = Games.begun(2, 3);
                x.tell(guess, mark);
                for (int row = 0; row < 9; row++) {
                    int about = row;
                    int due = x.mark(guess, about) == mark ? 0 : 1;
                    String call = "liesAbout(" + about + ") after tell(" + guess + ", " + mark + ")";
                    Check.due(call, due, () -> x.liesAbout(about));
                }
            }
        }
    }

    private static void asManyLiesAsAllowed() {
        Check.sentence("A row is left if no more entries are lies about it than lies are allowed");
        for (int lies = 0; lies <= 3; lies++) {
            GuessMarks x = Games.begun(1, 2);
            x.allowLies(lies);
            for (int told = 0; told <= 10; told++) {
                String when = told + " lies about the row 1, " + lies + " allowed: ";
                boolean isLeft = told <= lies;
                Check.due(when + "isLeft(1)", isLeft ? 1 : 0, () -> x.isLeft(1) ? 1 : 0);
                Check.due(when + "left()", isLeft ? 2 : 1, x::left);
                Check.due(when + "leftByAll()", isLeft ? 2 : 1, x::leftByAll);
                Check.due(when + "parts(0)", isLeft ? 2 : 1, () -> x.parts(0));
                if (told < 10) {
                    x.tell(0, 10);
                }
            }
        }
    }

    private static void atFirstNoneIs() {
        Check.sentence("at first none is");
        GuessMarks x = new GuessMarks();
        Check.due("tell(63, 30)", 1, () -> x.tell(63, 30));
        Check.no("isLeft(0) by one lie", () -> x.isLeft(0));
        Check.due("allowLies(3)", 0, () -> x.allowLies(3));
    }

    private static void partIsAllRowsWithAMark() {
        Check.sentence("a part is all rows that have the same mark with it: from one row to all");
        GuessMarks x = Games.begun(1, 6);
        Check.due("partSize(0, 10), one row", 1, () -> x.partSize(0, 10));
        Check.due("partSize(0, 0), all others", 5, () -> x.partSize(0, 0));
        x.tell(0, 0);
        Check.due("partSize(0, 10), no row", 0, () -> x.partSize(0, 10));
        Check.due("partSize(0, 0), all rows that are left", 5, () -> x.partSize(0, 0));
        Check.due("parts(0), one part", 1, () -> x.parts(0));
    }

    private static void nothingHasChanged() {
        Check.sentence("When a call throws, nothing has changed");
        refuseAll(new Refused("some told, one a lie about the hidden row", () -> told(3, 1)));
        refuseAll(new Refused("all entries told", () -> told(10, 0)));
        refuseAll(new Refused("no lies allowed", () -> told(3, 0)));
    }

    private static GuessMarks told(int entries, int lies) {
        GuessMarks x = Games.begun(2, 3);
        x.allowLies(lies);
        x.hide(5);
        for (int entry = 0; entry < entries; entry++) {
            x.tell(5, entry < lies ? 10 : 20);
        }
        return x;
    }

    /** In all three states one row is left, and no lie more about the hidden row can be told. */
    private static void refuseAll(Refused refused) {
        refused.badArgument("begin(8, 3)", x -> x.begin(8, 3));
        refused.noIndex("colourAt(9, 0)", x -> x.colourAt(9, 0));
        refused.noIndex("mark(0, 9)", x -> x.mark(0, 9));
        refused.badArgument("allowLies(4)", x -> x.allowLies(4));
        refused.noIndex("hide(9)", x -> x.hide(9));
        refused.noIndex("guess(9)", x -> x.guess(9));
        refused.noIndex("tell(9, 0)", x -> x.tell(9, 0));
        refused.badArgument("tell(0, 11)", x -> x.tell(0, 11));
        refused.badState("tell(0, 20)", x -> x.tell(0, 20));
        refused.noIndex("guessOf(10)", x -> x.guessOf(10));
        refused.noIndex("markOf(10)", x -> x.markOf(10));
        refused.noIndex("liesAbout(9)", x -> x.liesAbout(9));
        refused.noIndex("isLeft(9)", x -> x.isLeft(9));
        refused.noIndex("leftAt(9)", x -> x.leftAt(9));
        refused.noIndex("parts(9)", x -> x.parts(9));
        refused.noIndex("partMark(0, 9)", x -> x.partMark(0, 9));
        refused.noIndex("partSize(9, 0)", x -> x.partSize(9, 0));
        refused.badArgument("partSize(0, 11)", x -> x.partSize(0, 11));
        refused.noIndex("worstCase(9)", x -> x.worstCase(9));
        refused.noIndex("weight(9)", x -> x.weight(9));
        refused.badArgument("bestGuess(3)", x -> x.bestGuess(3));
        refused.noIndex("isInProof(10)", x -> x.isInProof(10));
    }
}
