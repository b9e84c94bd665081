import java.lang.reflect.InvocationTargetException;
import java.lang.reflect.Method;
import java.util.Arrays;

/** Long runs of mixed calls, each answered as the plain model answers it. */
public final class CompareTest {
    private static final int RUNS = 120;
    private static final int CALLS = 512;
    private static final int[] GAMES = {
        12, 13, 14, 16, 22, 23, 24, 26, 32, 33, 34, 35, 36, 42, 43, 44, 52, 53, 62, 72, 82
    };
    private static final int[] EXTREMES = {Integer.MIN_VALUE, Integer.MAX_VALUE, -1, -10, 255, 256, 512};

    private final GuessMarks made = new GuessMarks();
    private final PlainModel plain = new PlainModel();
    private final String name;
    private long seed;
    private int aim;

    private CompareTest(int run) {
        name = "run " + run;
        seed = run;
    }

    public static void main(String[] args) {
        for (int run = 1; run <= RUNS; run++) {
            new CompareTest(run).play();
        }
        Check.end();
    }

    private void play() {
        for (int i = 0; i < CALLS; i++) {
            int choice = below(100);
            if (choice < 3) {
                beginSome();
            } else if (choice < 40) {
                change();
            } else if (choice < 90) {
                look();
            } else {
                search();
            }
        }
    }

    private void beginSome() {
        if (below(3) == 0) {
            both("begin", below(11) - 1, below(9));
        } else {
            int game = GAMES[below(GAMES.length)];
            both("begin", game / 10, game % 10);
        }
        aim = below(plain.rows());
    }

    private void change() {
        switch (below(8)) {
            case 0 -> both("hide", below(2) == 0 ? aim : someRow());
            case 1 -> both("allowLies", below(6) - 1);
            case 2, 3 -> both("guess", someRow());
            case 4, 5 -> tellAimed();
            case 6 -> both("tell", someRow(), someMark());
            default -> both("takeBack");
        }
    }

    private void tellAimed() {
        int row = below(plain.rows());
        both("tell", row, plain.mark(row, aim));
    }

    private void look() {
        switch (below(16)) {
            case 0 -> both("rows");
            case 1 -> both("colourAt", someRow(), below(10) - 1);
            case 2 -> both("mark", someRow(), someRow());
            case 3 -> both("entries");
            case 4 -> both("guessOf", below(12) - 1);
            case 5 -> both("markOf", below(12) - 1);
            case 6 -> both("liesAbout", someRow());
            case 7 -> both("left");
            case 8 -> both("leftByAll");
            case 9 -> both("isLeft", someRow());
            case 10 -> both("leftAt", below(plain.left() + 2) - 1);
            case 11 -> both("parts", someRow());
            case 12 -> both("partMark", someRow(), below(12) - 1);
            case 13 -> both("partSize", someRow(), someMark());
            case 14 -> both("worstCase", someRow());
            default -> both("weight", someRow());
        }
    }

    private void search() {
        // The plain model is slow where many guesses part many rows.
        boolean isSmall = plain.rows() * plain.left() <= 8000;
        switch (below(4)) {
            case 0 -> both("bestGuess", isSmall ? below(5) - 1 : 3);
            case 1 -> {
                if (isSmall || plain.left() > 24) {
                    both("guessesNeeded");
                }
            }
            case 2 -> both("proofSize");
            default -> both("isInProof", below(12) - 1);
        }
    }

    private int someRow() {
        int choice = below(30);
        if (choice < EXTREMES.length) {
            return EXTREMES[choice];
        }
        return choice < 10 ? plain.rows() : below(plain.rows());
    }

    private int someMark() {
        int choice = below(40);
        if (choice < EXTREMES.length) {
            return EXTREMES[choice];
        }
        return choice < 20 ? below(91) : 10 * below(4) + below(4);
    }

    private int below(int end) {
        seed = seed * 6364136223846793005L + 1442695040888963407L;
        return (int) ((seed >>> 33) % end);
    }

    private void both(String call, Integer... arguments) {
        String due = answer(plain, call, arguments);
        Check.same(name + ": " + call + Arrays.toString(arguments), due, answer(made, call, arguments));
    }

    private static String answer(Object of, String call, Integer[] arguments) {
        Class<?>[] types = new Class<?>[arguments.length];
        Arrays.fill(types, int.class);
        try {
            Method method = of.getClass().getMethod(call, types);
            return String.valueOf(method.invoke(of, (Object[]) arguments));
        } catch (InvocationTargetException e) {
            return e.getCause().getClass().getName();
        } catch (ReflectiveOperationException e) {
            throw new AssertionError(call, e);
        }
    }
}
