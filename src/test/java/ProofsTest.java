/** Promises 26 and 27. */
public final class ProofsTest {
    public static void main(String[] args) {
        noProof();
        oneEntry();
        allEntries();
        ofSeveral();
        earlierEntryFirst();
        withLies();
        wrong();
        Check.end();
    }

    private static GuessMarks game(int places, int colours) {
        GuessMarks x = new GuessMarks();
        x.begin(places, colours);
        return x;
    }

    /** Checks the size and, with a 1 for an entry that is in it, the proof. */
    private static void proofDue(String when, String due, GuessMarks x) {
        int size = due.replace("0", "").length();
        Check.due("26: proofSize() " + when, size, x::proofSize);
        StringBuilder proof = new StringBuilder();
        for (int entry = 0; entry < x.entries(); entry++) {
            proof.append(x.isInProof(entry) ? 1 : 0);
        }
        Check.same("27: isInProof " + when, due, proof.toString());
    }

    private static void noProof() {
        GuessMarks x = game(1, 2);
        Check.due("26: proofSize(), nothing told", -1, x::proofSize);
        x.allowLies(1);
        x.tell(0, 10);
        Check.due("26: proofSize(), two rows left", -1, x::proofSize);
        Check.badState("27: isInProof(0), two rows left", () -> x.isInProof(0) ? 1 : 0);
        x.allowLies(0);
        x.tell(0, 0);
        Check.due("26: proofSize(), no row left", -1, x::proofSize);
        Check.badState("27: isInProof(0), no row left", () -> x.isInProof(0) ? 1 : 0);
        Check.badState("27: isInProof(1), no row left", () -> x.isInProof(1) ? 1 : 0);
    }

    private static void oneEntry() {
        GuessMarks x = game(2, 3);
        x.tell(5, 20);
        proofDue("of one entry", "1", x);
        x.tell(5, 20);
        proofDue("of the first one of two", "10", x);
        x.begin(2, 3);
        x.tell(0, 0);
        x.tell(1, 1);
        x.tell(5, 20);
        proofDue("of the last entry", "001", x);
    }

    private static void allEntries() {
        GuessMarks x = game(1, 6);
        for (int row = 0; row < 5; row++) {
            x.tell(row, 0);
        }
        proofDue("of all entries", "11111", x);
        x.tell(5, 10);
        proofDue("of one in place of five", "000001", x);
    }

    private static void ofSeveral() {
        GuessMarks x = game(1, 3);
        x.tell(0, 0);
        x.tell(0, 0);
        x.tell(1, 0);
        x.tell(1, 0);
        proofDue("of the earlier ones", "1010", x);
        x.begin(1, 6);
        for (int i = 0; i < 10; i++) {
            x.tell(i % 5, 0);
        }
        proofDue("of the first five of ten", "1111100000", x);
    }

    /** Entries 0 and 3 are a proof, and 1 and 2 are one: the first entry decides, not the last. */
    private static void earlierEntryFirst() {
        GuessMarks x = game(2, 3);
        x.tell(0, 0);
        x.tell(1, 10);
        x.tell(7, 10);
        x.tell(8, 0);
        Check.due("26: left()", 1, x::left);
        proofDue("with the earlier entry", "1001", x);
    }

    private static void withLies() {
        GuessMarks x = game(1, 2);
        x.allowLies(1);
        x.tell(1, 10);
        x.tell(0, 10);
        x.tell(1, 10);
        Check.due("26: left(), row 1 by a lie", 1, x::left);
        proofDue("with a lie", "101", x);
        x.tell(1, 10);
        x.tell(1, 10);
        proofDue("with a lie, five entries", "10100", x);
        x.allowLies(2);
        proofDue("with two lies", "10110", x);
        x.allowLies(3);
        proofDue("with three lies", "10111", x);
        x.tell(1, 10);
        proofDue("with three lies, six entries", "101110", x);
    }

    private static void wrong() {
        GuessMarks x = game(2, 3);
        Check.noIndex("27: isInProof(0), no entry", () -> x.isInProof(0) ? 1 : 0);
        x.tell(5, 20);
        String state = State.of(x);
        int[] none = {-1, 1, 10, 31, 32, Integer.MIN_VALUE, Integer.MAX_VALUE};
        for (int entry : none) {
            Check.noIndex("27: isInProof(" + entry + ")", () -> x.isInProof(entry) ? 1 : 0);
        }
        State.unchanged("isInProof", state, x);
        x.tell(5, 0);
        Check.noIndex("27: isInProof(2), the entry comes first", () -> x.isInProof(2) ? 1 : 0);
        Check.badState("27: isInProof(1), no row left", () -> x.isInProof(1) ? 1 : 0);
    }
}
