/** What hats of each kind hold, how far they fly and what they are worth (Terms, promises 3, 13, 15 and 45). */
public final class KindsTest {
    private static final Due DUE = new Due("KindsTest");

    /** A row a kind; by FIGURE 0, 1, 4, 5, 9. */
    private static final int[] FIGURES = {0, 1, 4, 5, 9};
    private static final int[][] HOLDS = {
        {3, 3, 3, 3, 3}, {3, 4, 7, 8, 12}, {3, 3, 5, 5, 7}, {2, 2, 2, 2, 2},
        {5, 6, 9, 10, 14}, {1, 1, 3, 3, 5}, {0, 0, 0, 0, 0}, {0, 1, 4, 5, 9}
    };
    private static final int[][] WORTH = {
        {2, 2, 2, 2, 2}, {3, 3, 3, 3, 3}, {5, 6, 9, 10, 14}, {1, 1, 1, 1, 1},
        {6, 6, 6, 6, 6}, {14, 15, 18, 19, 23}, {0, 1, 4, 5, 9}, {2, 2, 2, 2, 2}
    };
    /** A row a kind, of FIGURE 8; by wind 0 .. 9. */
    private static final int[][] FLIES = {
        {0, 1, 2, 3, 4, 5, 6, 7, 8, 9}, {0, 1, 2, 3, 4, 5, 6, 7, 8, 9}, {0, 2, 3, 4, 5, 6, 7, 8, 9, 10},
        {0, 2, 4, 6, 8, 10, 12, 14, 16, 18}, {0, 0, 1, 1, 2, 2, 3, 3, 4, 4}, {0, 4, 5, 6, 7, 8, 9, 10, 11, 12},
        {0, 1, 3, 5, 7, 9, 11, 13, 15, 17}, {0, 0, 0, 1, 1, 1, 2, 2, 2, 3}
    };

    public static void main(String[] args) {
        for (int kind = 0; kind < 8; kind++) {
            for (int i = 0; i < FIGURES.length; i++) {
                holdsAndWorth(kind, FIGURES[i], HOLDS[kind][i], WORTH[kind][i]);
                takenJustAbove(kind, FIGURES[i], HOLDS[kind][i]);
            }
            for (int v = 0; v < 10; v++) {
                told(kind, 8, v, FLIES[kind][v]);
            }
        }
        topperByThirds();
        DUE.end();
    }

    private static void holdsAndWorth(int kind, int figure, int holds, int worth) {
        HatsOfTheWind x = Due.street("p001;h" + kind + figure + "0;");
        String which = " of kind " + kind + " figure " + figure;
        DUE.is("HOLDS" + which, x.hat(0, 4), holds);
        DUE.is("WORTH" + which, x.hat(0, 5), worth);
        DUE.is("WORTH of all" + which, x.then(0, 2), worth);
        x.keep(1, 1, kind, figure);
        DUE.is("COST" + which, x.cost(1), worth);
    }

    /** Wind as much as it holds lets it be; 1 more takes it (if there is such a wind); so with a pin for each. */
    private static void takenJustAbove(int kind, int figure, int holds) {
        for (int pins = 0; pins < 10; pins++) {
            for (int v = 0; v < 10; v++) {
                HatsOfTheWind x = Due.street("p001;h" + kind + figure + "0;i0" + pins + ";w09" + v + ";");
                boolean flown = x.hatThen(0, 1, 0) > 0 || x.hatThen(0, 1, 1) == 9;
                // Those that do not fly are on his head again at once.
                boolean taken = v > holds + pins && distance(kind, figure, v) > 0;
                DUE.is("taken, kind " + kind + " figure " + figure + " pins " + pins + " wind " + v,
                    flown ? 1 : 0, taken ? 1 : 0);
            }
        }
    }

    private static int distance(int kind, int figure, int v) {
        return kind == 5 ? v == 0 ? 0 : v + 1 + figure / 3 : FLIES[kind][v];
    }

    /** Loose at 1 it flies as told: one place more or less is forged. */
    private static void told(int kind, int figure, int v, int flies) {
        HatsOfTheWind x = Due.street("p001;h" + kind + figure + "0;w09" + v + ";");
        for (int place = 0; place < 22; place++) {
            Due.layRow(x, 0, 0, 1, place);
            DUE.is("FLIES, kind " + kind + " wind " + v + " to " + place, x.forged(0, 0), place == 1 + flies ? -4 : 1);
        }
    }

    private static void topperByThirds() {
        int[] more = {0, 0, 0, 1, 1, 1, 2, 2, 2, 3};
        for (int figure = 0; figure < 10; figure++) {
            HatsOfTheWind x = Due.street("p001;h5" + figure + "0;w092;");
            Due.layRow(x, 0, 0, 0, 3 + more[figure]);
            DUE.is("TOPPER of figure " + figure, x.forged(0, 0), -4);
        }
    }
}
