/** The sentences of promises 26 and 27 that name a boundary case, each with a test of its own. */
public final class ProofsBoundsTest {
    private static final int LOW = Integer.MIN_VALUE;
    private static final int HIGH = Integer.MAX_VALUE;

    public static void main(String[] args) {
        proofOfOneEntry();
        proofOfAllEntries();
        proofWithLies();
        proofOfEachSize();
        proofWhileNotOneLeft();
        firstEntryDecides();
        isInProofNoEntry();
        isInProofNotOneLeft();
        Check.end();
    }

    /** Tells a lie-free entry about each row in turn, so often; of six rows the last one is meant. */
    private static GuessMarks ruledOut(int lies, int rows, int times) {
        GuessMarks x = Games.begun(1, 6);
        x.allowLies(lies);
        for (int row = 0; row < rows; row++) {
            for (int i = 0; i < times; i++) {
                x.tell(row, 0);
            }
        }
        return x;
    }

    private static String proof(GuessMarks x, int entries) {
        StringBuilder proof = new StringBuilder();
        for (int entry = 0; entry < entries; entry++) {
            proof.append(x.isInProof(entry) ? 1 : 0);
        }
        return proof.toString();
    }

    private static void proofDue(String when, String due, GuessMarks x) {
        Check.due("proofSize() " + when, due.replace("0", "").length(), x::proofSize);
        Check.same("the proof " + when, due, proof(x, due.length()));
    }

    private static void proofOfOneEntry() {
        Check.sentence("26: how many entries are in a shortest proof: just one");
        for (int at = 0; at < 10; at++) {
            GuessMarks x = Games.begun(2, 3);
            StringBuilder due = new StringBuilder();
            for (int entry = 0; entry < 10; entry++) {
                x.tell(entry == at ? 5 : 0, entry == at ? 20 : 0);
                due.append(entry == at ? 1 : 0);
            }
            proofDue("of the entry " + at, due.toString(), x);
        }
    }

    private static void proofOfAllEntries() {
        Check.sentence("26: how many entries are in a shortest proof: all of them, up to ten");
        proofDue("of all five", "11111", ruledOut(0, 5, 1));
        proofDue("of all ten, with a lie", "1111111111", ruledOut(1, 5, 2));
        GuessMarks withoutLast = ruledOut(0, 5, 1);
        withoutLast.tell(0, 0);
        proofDue("of all but the last", "111110", withoutLast);
        GuessMarks withoutFirst = Games.begun(1, 6);
        withoutFirst.tell(5, 0);
        withoutFirst.allowLies(1);
        withoutFirst.tell(5, 10);
        for (int row = 0; row < 5; row++) {
            withoutFirst.tell(row, 0);
        }
        proofDue("of all but the first, that is a lie", "0111111", withoutFirst);
    }

    private static void proofWithLies() {
        Check.sentence("26: with which alone, with as many lies allowed, just one row would be left");
        for (int lies = 0; lies <= 3; lies++) {
            GuessMarks x = Games.begun(2, 3);
            x.allowLies(lies);
            StringBuilder due = new StringBuilder();
            for (int entry = 0; entry < 10; entry++) {
                x.tell(5, 20);
                due.append(entry <= lies ? 1 : 0);
            }
            proofDue("with " + lies + " lies", due.toString(), x);
        }
    }

    /** All ten entries are needed with one lie allowed, five with none: the earlier one for each row. */
    private static void proofOfEachSize() {
        Check.sentence("26: Returns the number: as lies, entries and rows that are left change");
        GuessMarks x = ruledOut(1, 5, 2);
        Check.due("proofSize() with a lie", 10, x::proofSize);
        x.allowLies(0);
        proofDue("without lies", "1010101010", x);
        x.takeBack();
        proofDue("with nine entries", "101010101", x);
        x.takeBack();
        Check.due("proofSize() with eight entries", -1, x::proofSize);
        x.tell(5, 10);
        proofDue("of one in place of all", "000000001", x);
    }

    private static void proofWhileNotOneLeft() {
        Check.sentence("26: -1 if not just one row is left");
        Games.each((places, colours, rows) -> {
            GuessMarks x = Games.begun(places, colours);
            String game = Games.name(places, colours);
            Check.due(game + "proofSize(), all left", -1, x::proofSize);
            x.tell(0, 10 * places);
            Check.due(game + "proofSize(), one left", 1, x::proofSize);
            x.tell(rows - 1, 10 * places);
            Check.due(game + "proofSize(), none left", -1, x::proofSize);
            x.allowLies(1);
            Check.due(game + "proofSize(), two or more left", -1, x::proofSize);
        });
        for (int ruledOut = 0; ruledOut < 5; ruledOut++) {
            Check.due("proofSize(), " + ruledOut + " of six ruled out", -1, ruledOut(0, ruledOut, 2)::proofSize);
        }
        Check.due("proofSize(), all of six ruled out", -1, ruledOut(0, 6, 1)::proofSize);
    }

    private static void firstEntryDecides() {
        Check.sentence("27: the one that has, of the first entry that is in one but not in the other, this entry");
        GuessMarks same = Games.begun(2, 3);
        for (int i = 0; i < 10; i++) {
            same.tell(5, 20);
        }
        proofDue("of ten that are alike", "1000000000", same);
        GuessMarks crossed = Games.begun(2, 3);
        crossed.tell(0, 0);
        crossed.tell(1, 10);
        crossed.tell(7, 10);
        crossed.tell(8, 0);
        proofDue("0 and 3, not 1 and 2", "1001", crossed);
        crossed.tell(0, 0);
        proofDue("0 and 3, not 1 and 2, another one told", "10010", crossed);
        GuessMarks pairs = Games.begun(1, 6);
        for (int i = 0; i < 10; i++) {
            pairs.tell(i / 2, 0);
        }
        proofDue("of the first of each pair", "1010101010", pairs);
        GuessMarks turned = Games.begun(1, 6);
        for (int i = 0; i < 10; i++) {
            turned.tell(i < 5 ? i : 9 - i, 0);
        }
        proofDue("of the first five", "1111100000", turned);
    }

    private static GuessMarks oneLeft(int entries) {
        GuessMarks x = Games.begun(2, 3);
        for (int i = 0; i < entries; i++) {
            x.tell(5, 20);
        }
        return x;
    }

    private static void isInProofNoEntry() {
        Check.sentence("27: Throws IndexOutOfBoundsException if there is no such entry");
        int[] counts = {0, 1, 9, 10};
        for (int count : counts) {
            Refused refused = new Refused(count + " entries", () -> oneLeft(count));
            int[] wrong = {-1, count, count + 1, 10, 11, 31, 32, 33, 64, LOW, HIGH};
            for (int entry : wrong) {
                refused.noIndex("isInProof(" + entry + ")", x -> x.isInProof(entry));
            }
        }
        GuessMarks x = oneLeft(10);
        Check.yes("isInProof(0), ten entries", () -> x.isInProof(0));
        Check.no("isInProof(9), ten entries", () -> x.isInProof(9));
    }

    private static void isInProofNotOneLeft() {
        Check.sentence("27: Throws IllegalStateException if not just one row is left");
        Refused two = new Refused("two left", () -> ruledOut(0, 4, 2));
        Refused none = new Refused("none left", () -> ruledOut(0, 6, 1));
        Refused all = new Refused("all left by lies", () -> ruledOut(3, 6, 1));
        for (int i = 0; i < 6; i++) {
            int entry = i;
            two.badState("isInProof(" + entry + ")", x -> x.isInProof(entry));
            none.badState("isInProof(" + entry + ")", x -> x.isInProof(entry));
            all.badState("isInProof(" + entry + ")", x -> x.isInProof(entry));
        }
        Check.yes("isInProof(4), one left", () -> ruledOut(0, 5, 1).isInProof(4));
    }
}
