/** The games that the document allows, with their rows written out. */
final class Games {
    /** Places and colours of all games of at most 256 rows. */
    private static final int[][] ALL = {
        {1, 2}, {1, 3}, {1, 4}, {1, 5}, {1, 6}, {2, 2}, {2, 3}, {2, 4}, {2, 5}, {2, 6},
        {3, 2}, {3, 3}, {3, 4}, {3, 5}, {3, 6}, {4, 2}, {4, 3}, {4, 4}, {5, 2}, {5, 3},
        {6, 2}, {7, 2}, {8, 2}
    };
    /** How many rows they have, in the same order. */
    private static final int[] ROWS = {
        2, 3, 4, 5, 6, 4, 9, 16, 25, 36, 8, 27, 64, 125, 216, 16, 81, 256, 32, 243, 64, 128, 256
    };

    private Games() {
    }

    interface Use {
        void of(int places, int colours, int rows);
    }

    static void each(Use use) {
        for (int i = 0; i < ALL.length; i++) {
            use.of(ALL[i][0], ALL[i][1], ROWS[i]);
        }
    }

    static GuessMarks begun(int places, int colours) {
        GuessMarks x = new GuessMarks();
        x.begin(places, colours);
        return x;
    }

    /** The colours of all rows, counted up place by place as the wheels of a counter turn. */
    static int[][] colours(int places, int colours, int rows) {
        int[][] all = new int[rows][places];
        for (int row = 1; row < rows; row++) {
            System.arraycopy(all[row - 1], 0, all[row], 0, places);
            int place = places - 1;
            while (all[row][place] == colours - 1) {
                all[row][place] = 0;
                place--;
            }
            all[row][place]++;
        }
        return all;
    }

    static String name(int places, int colours) {
        return places + " places, " + colours + " colours: ";
    }
}
