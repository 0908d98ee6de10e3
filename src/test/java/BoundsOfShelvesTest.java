/** The boundary cases of section III and of promises 37 to 46, a sentence at a time: shelves, rows, the image. */
public final class BoundsOfShelvesTest {
    private static final Due DUE = new Due("BoundsOfShelvesTest");
    private static final int[] NO_SHELF = {Integer.MIN_VALUE, -8, -1, 8, 9, Integer.MAX_VALUE};
    private static final int[] LEAST = {-128, -32768, Integer.MIN_VALUE};
    private static final int[] MOST = {127, 32767, Integer.MAX_VALUE};
    private static final int NO_ARGUMENT = 1;
    private static final int NO_STATE = 2;

    public static void main(String[] args) {
        nothingAtFirst();
        eightShelves();
        oneThingAShelf();
        sorts();
        sizes();
        zeroAtFirst();
        lowestBits();
        keepNothing();
        keepRefused();
        rowRefused();
        putRefused();
        elementThrows();
        copyStretches();
        copyOntoItself();
        copyRefused();
        costOfEach();
        tossOfEach();
        tossOfNone();
        takenFromAShelf();
        imageOfAll();
        imageOnly();
        imageAndShelves();
        imageOfImage();
        countBits();
        DUE.end();
    }

    private static void nothingAtFirst() {
        DUE.sentence("SHELVES 0 .. 7 each hold nothing (at first)");
        HatsOfTheWind x = Due.street("p001;h000;");
        HatsOfTheWind y = new HatsOfTheWind();
        y.comes(0, 1);
        for (int d = 0; d < 8; d++) {
            DUE.is("cost", y.cost(d), -11);
            DUE.is("toss", y.toss(d), -11);
            DUE.is("put", y.put(d, 0, 0), -11);
            DUE.is("street", y.street(d), -11);
            DUE.is("wears", y.wears(d, 0), -11);
            DUE.is("judge", y.judge(d), -11);
            DUE.is("copy", y.copy(d, 0, d, 0, 0), -11);
            DUE.throwsAt(y, d, 0, NO_STATE);
            DUE.is("whatIs", x.whatIs(d, 0, 0), -11);
            DUE.is("wager", x.wager(d, 0), -11);
            DUE.is("forged", x.forged(d, 0), -11);
        }
    }

    private static void eightShelves() {
        DUE.sentence("SHELVES 0 .. 7: each by itself");
        HatsOfTheWind x = new HatsOfTheWind();
        for (int d = 0; d < 8; d++) {
            DUE.is("a row", x.row(d, d % 3, d), 0);
        }
        for (int d = 0; d < 8; d++) {
            for (int i = 0; i < d; i++) {
                DUE.is("put", x.put(d, i, 10 * d + i), 0);
            }
        }
        for (int d = 0; d < 8; d++) {
            for (int i = 0; i < d; i++) {
                DUE.is("element", x.element(d, i), 10 * d + i);
            }
            DUE.throwsAt(x, d, d, NO_STATE);
        }
        for (int d = 0; d < 8; d++) {
            DUE.is("a hat", x.keep(d, 1, 2, d), 0);
        }
        for (int d = 0; d < 8; d++) {
            DUE.is("cost", x.cost(d), 5 + d);
        }
    }

    private static void oneThingAShelf() {
        DUE.sentence("each hold nothing, a KIND of HAT, a ROW");
        HatsOfTheWind x = new HatsOfTheWind();
        Due.layRow(x, 3, 2, 5, 6);
        DUE.is("a hat in place of a row", x.keep(3, 1, 2, 4), 0);
        DUE.is("it is there", x.cost(3), 9);
        DUE.is("no row", x.put(3, 0, 1), -12);
        DUE.throwsAt(x, 3, 0, NO_STATE);
        DUE.is("another hat in its place", x.keep(3, 1, 7, 8), 0);
        DUE.is("it is there", x.toss(3), 8);
        DUE.is("a row in place of a hat", x.row(3, 2, 2), 0);
        DUE.is("no hat", x.cost(3), -12);
        DUE.is("no hat", x.toss(3), -12);
        DUE.is("nothing of the old row", x.element(3, 0), 0);
        DUE.is("nothing in place of a row", x.keep(3, 0, 0, 0), 0);
        DUE.is("nothing", x.put(3, 0, 0), -11);
        DUE.throwsAt(x, 3, 0, NO_STATE);
        x.keep(3, 1, 1, 1);
        DUE.is("nothing in place of a hat", x.keep(3, 0, 0, 0), 0);
        DUE.is("nothing", x.cost(3), -11);
        DUE.is("nothing in place of nothing", x.keep(3, 0, 0, 0), 0);
        DUE.is("nothing", x.toss(3), -11);
    }

    private static void sorts() {
        DUE.sentence("A ROW has a SORT (0 bytes, 1 shorts, 2 ints)");
        HatsOfTheWind x = new HatsOfTheWind();
        for (int sort = 0; sort < 3; sort++) {
            DUE.is("sort " + sort, x.row(sort, sort, 2), 0);
            x.put(sort, 0, LEAST[sort]);
            x.put(sort, 1, MOST[sort]);
            DUE.is("the least", x.element(sort, 0), LEAST[sort]);
            DUE.is("the most", x.element(sort, 1), MOST[sort]);
        }
        int[] none = {Integer.MIN_VALUE, -1, 3, 4, Integer.MAX_VALUE};
        for (int sort : none) {
            DUE.is("sort " + sort, x.row(4, sort, 1), -1);
        }
        DUE.is("no row came", x.put(4, 0, 0), -11);
        for (int d = 0; d < 3; d++) {
            for (int e = 0; e < 3; e++) {
                DUE.is("of one sort or not", x.copy(d, 0, e, 0, 0), d == e ? 0 : -12);
            }
        }
    }

    private static void sizes() {
        DUE.sentence("and 0 .. 100 elements");
        HatsOfTheWind x = new HatsOfTheWind();
        for (int sort = 0; sort < 3; sort++) {
            for (int n = 0; n <= 100; n += n < 2 || n > 97 ? 1 : 48) {
                DUE.is("row of " + n, x.row(0, sort, n), 0);
                DUE.is("behind the last", x.put(0, n, 1), -13);
                DUE.throwsAt(x, 0, n, NO_STATE);
                DUE.is("the last", n == 0 ? 0 : x.put(0, n - 1, 1), 0);
                DUE.is("the last", n == 0 ? 1 : x.element(0, n - 1), 1);
            }
            DUE.is("row of 101", x.row(0, sort, 101), -1);
            DUE.is("row of -1", x.row(0, sort, -1), -14);
        }
    }

    private static void zeroAtFirst() {
        DUE.sentence("elements, 0 at first");
        HatsOfTheWind x = new HatsOfTheWind();
        for (int sort = 0; sort < 3; sort++) {
            x.row(5, 2 - sort, 100);
            for (int i = 0; i < 100; i++) {
                x.put(5, i, 7);
            }
            x.row(5, sort, 1);
            DUE.is("a smaller one", x.element(5, 0), 0);
            x.row(5, sort, 100);
            long sum = 0;
            for (int i = 0; i < 100; i++) {
                sum += Math.abs(x.element(5, i));
            }
            DUE.is("a greater one behind it", sum, 0);
        }
    }

    private static void lowestBits() {
        DUE.sentence("what is put in keeps its lowest bits");
        HatsOfTheWind x = new HatsOfTheWind();
        x.row(0, 0, 1);
        x.row(1, 1, 1);
        x.row(2, 2, 1);
        int[] put = {127, 128, 255, 256, -128, -129, 32767, 32768, 65535, 65536, -32768, -32769, 0x12345678, -1,
            Integer.MAX_VALUE, Integer.MIN_VALUE};
        int[] bytes = {127, -128, -1, 0, -128, 127, -1, 0, -1, 0, 0, -1, 0x78, -1, -1, 0};
        int[] shorts = {127, 128, 255, 256, -128, -129, 32767, -32768, -1, 0, -32768, 32767, 0x5678, -1, -1, 0};
        for (int k = 0; k < put.length; k++) {
            for (int d = 0; d < 3; d++) {
                DUE.is("put " + put[k], x.put(d, 0, put[k]), 0);
            }
            DUE.is("a byte of " + put[k], x.element(0, 0), bytes[k]);
            DUE.is("a short of " + put[k], x.element(1, 0), shorts[k]);
            DUE.is("an int of " + put[k], x.element(2, 0), put[k]);
        }
    }

    private static void keepNothing() {
        DUE.sentence("what = 0 nothing (the others do not matter)");
        HatsOfTheWind x = new HatsOfTheWind();
        int[] others = {Integer.MIN_VALUE, -1, 0, 7, 8, 9, 10, Integer.MAX_VALUE};
        for (int other : others) {
            x.keep(6, 1, 0, 1);
            DUE.is("k " + other, x.keep(6, 0, other, 0), 0);
            DUE.is("nothing", x.cost(6), -11);
            x.row(6, 0, 1);
            DUE.is("figure " + other, x.keep(6, 0, 0, other), 0);
            DUE.is("nothing", x.put(6, 0, 0), -11);
        }
    }

    private static void keepRefused() {
        DUE.sentence("keep: 0. -1");
        HatsOfTheWind x = new HatsOfTheWind();
        x.keep(0, 1, 7, 9);
        for (int d : NO_SHELF) {
            DUE.is("nothing on shelf " + d, x.keep(d, 0, 0, 0), -1);
            DUE.is("a hat on shelf " + d, x.keep(d, 1, 0, 0), -1);
        }
        int[] whats = {Integer.MIN_VALUE, -1, 2, 3, Integer.MAX_VALUE};
        for (int what : whats) {
            DUE.is("what " + what, x.keep(0, what, 0, 0), -1);
        }
        int[] kinds = {Integer.MIN_VALUE, -1, 8, Integer.MAX_VALUE};
        for (int kind : kinds) {
            DUE.is("kind " + kind, x.keep(0, 1, kind, 0), -1);
        }
        int[] figures = {Integer.MIN_VALUE, -1, 10, Integer.MAX_VALUE};
        for (int figure : figures) {
            DUE.is("figure " + figure, x.keep(0, 1, 0, figure), -1);
        }
        DUE.is("what was there stays", x.toss(0), 9);
        Due.layRow(x, 1, 2, 5);
        DUE.is("no such kind for a row's shelf", x.keep(1, 1, 8, 0), -1);
        DUE.is("what was there stays", x.element(1, 0), 5);
    }

    private static void rowRefused() {
        DUE.sentence("row: -1 (n above 100); -14 a size below 0");
        HatsOfTheWind x = new HatsOfTheWind();
        Due.layRow(x, 0, 1, 5, -6);
        for (int d : NO_SHELF) {
            DUE.is("shelf " + d, x.row(d, 0, 1), -1);
            DUE.is("-1 ahead of -14, shelf " + d, x.row(d, 0, -1), -1);
        }
        int[] above = {101, 102, 1000, Integer.MAX_VALUE};
        for (int n : above) {
            DUE.is("n " + n, x.row(0, 0, n), -1);
        }
        int[] below = {-1, -2, -1000, Integer.MIN_VALUE};
        for (int n : below) {
            DUE.is("n " + n, x.row(0, 0, n), -14);
            DUE.is("-1 ahead of -14, no such sort", x.row(0, 3, n), -1);
            DUE.is("-1 ahead of -14, no such sort", x.row(0, -1, n), -1);
        }
        DUE.is("what was there stays", x.element(0, 1), -6);
        DUE.throwsAt(x, 0, 2, NO_STATE);
        x.keep(1, 1, 0, 5);
        DUE.is("for a hat's shelf", x.row(1, 0, -1), -14);
        DUE.is("for a hat's shelf", x.row(1, 0, 101), -1);
        DUE.is("what was there stays", x.toss(1), 5);
    }

    private static void putRefused() {
        DUE.sentence("put: -1, -11, -12, -13");
        HatsOfTheWind x = new HatsOfTheWind();
        Due.layRow(x, 0, 0, 1, 2, 3);
        x.row(1, 0, 0);
        x.keep(2, 1, 0, 0);
        for (int d : NO_SHELF) {
            DUE.is("shelf " + d, x.put(d, 0, 0), -1);
            DUE.is("shelf " + d + " ahead of no place", x.put(d, -1, 0), -1);
        }
        int[] places = {Integer.MIN_VALUE, -1, 3, 100, Integer.MAX_VALUE};
        for (int i : places) {
            DUE.is("place " + i, x.put(0, i, 9), -13);
            DUE.is("place " + i + " of none", x.put(1, i, 9), -13);
            DUE.is("a hat ahead of no place", x.put(2, i, 9), -12);
            DUE.is("nothing ahead of no place", x.put(3, i, 9), -11);
        }
        DUE.is("place 0 of none", x.put(1, 0, 9), -13);
        for (int i = 0; i < 3; i++) {
            DUE.is("the row is as it was", x.element(0, i), i + 1);
        }
        DUE.is("the first", x.put(0, 0, 7), 0);
        DUE.is("the last", x.put(0, 2, 8), 0);
        DUE.is("the first", x.element(0, 0), 7);
        DUE.is("between", x.element(0, 1), 2);
        DUE.is("the last", x.element(0, 2), 8);
    }

    private static void elementThrows() {
        DUE.sentence("element: IllegalArgumentException: no such SHELF");
        HatsOfTheWind x = new HatsOfTheWind();
        Due.layRow(x, 0, 0, 1, 2, 3);
        x.row(1, 2, 0);
        x.keep(2, 1, 0, 0);
        for (int d : NO_SHELF) {
            DUE.throwsAt(x, d, 0, NO_ARGUMENT);
            DUE.throwsAt(x, d, -1, NO_ARGUMENT);
        }
        DUE.sentence("element: IllegalStateException: no ROW, no such place");
        int[] places = {Integer.MIN_VALUE, -1, 3, 100, Integer.MAX_VALUE};
        for (int i : places) {
            DUE.throwsAt(x, 0, i, NO_STATE);
            DUE.throwsAt(x, 1, i, NO_STATE);
            DUE.throwsAt(x, 2, i, NO_STATE);
            DUE.throwsAt(x, 3, i, NO_STATE);
        }
        DUE.throwsAt(x, 1, 0, NO_STATE);
        DUE.throwsAt(x, 2, 0, NO_STATE);
        DUE.throwsAt(x, 3, 0, NO_STATE);
        DUE.is("the last", x.element(0, 2), 3);
    }

    /** A row of shorts 100, 101, .. on shelf 0, one of n zeros on shelf 1. */
    private static HatsOfTheWind rows(int m, int n) {
        HatsOfTheWind x = new HatsOfTheWind();
        x.row(0, 1, m);
        for (int i = 0; i < m; i++) {
            x.put(0, i, 100 + i);
        }
        x.row(1, 1, n);
        return x;
    }

    private static void copyStretches() {
        DUE.sentence("n elements of the ROW in SHELF d from i on come to that in SHELF e from j on: n");
        for (int i = -1; i <= 5; i++) {
            for (int j = -1; j <= 4; j++) {
                for (int n = -1; n <= 5; n++) {
                    HatsOfTheWind x = rows(4, 3);
                    boolean there = i >= 0 && j >= 0 && n >= 0 && i + n <= 4 && j + n <= 3;
                    DUE.is("copy(0, " + i + ", 1, " + j + ", " + n + ")", x.copy(0, i, 1, j, n), there ? n : -13);
                    for (int k = 0; k < 3; k++) {
                        boolean come = there && k >= j && k < j + n;
                        DUE.is("element " + k, x.element(1, k), come ? 100 + i + k - j : 0);
                    }
                    DUE.is("that it comes from stays", x.element(0, 3), 103);
                }
            }
        }
        HatsOfTheWind all = rows(100, 100);
        DUE.is("all of a hundred", all.copy(0, 0, 1, 0, 100), 100);
        DUE.is("the last", all.element(1, 99), 199);
        DUE.is("one more", all.copy(0, 0, 1, 0, 101), -13);
        HatsOfTheWind none = rows(0, 0);
        DUE.is("none of none", none.copy(0, 0, 1, 0, 0), 0);
        DUE.is("one of none", none.copy(0, 0, 1, 0, 1), -13);
    }

    private static void copyOntoItself() {
        DUE.sentence("copy within one ROW: what comes is what was there");
        for (int i = 0; i <= 5; i++) {
            for (int j = 0; j <= 5; j++) {
                int n = 5 - Math.max(i, j);
                HatsOfTheWind x = rows(5, 0);
                DUE.is("copy(0, " + i + ", 0, " + j + ", " + n + ")", x.copy(0, i, 0, j, n), n);
                for (int k = 0; k < 5; k++) {
                    boolean come = k >= j && k < j + n;
                    DUE.is("element " + k, x.element(0, k), come ? 100 + i + k - j : 100 + k);
                }
            }
        }
    }

    private static void copyRefused() {
        DUE.sentence("copy: -1, -11 (either), -12 (no ROWS of one SORT), -13 (n below 0, too)");
        HatsOfTheWind x = rows(4, 4);
        x.row(2, 0, 4);
        x.row(3, 2, 4);
        x.keep(4, 1, 0, 0);
        x.keep(5, 1, 0, 0);
        for (int d : NO_SHELF) {
            DUE.is("from shelf " + d, x.copy(d, 0, 1, 0, 1), -1);
            DUE.is("to shelf " + d, x.copy(0, 0, d, 0, 1), -1);
            DUE.is("-1 ahead of -11", x.copy(6, 0, d, 0, 1), -1);
            DUE.is("-1 ahead of -11", x.copy(d, 0, 6, 0, 1), -1);
            DUE.is("-1 ahead of -12", x.copy(4, 0, d, 0, 1), -1);
            DUE.is("-1 ahead of -13", x.copy(0, 0, d, 0, -1), -1);
        }
        DUE.is("nothing to come from", x.copy(6, 0, 1, 0, 1), -11);
        DUE.is("nothing to come to", x.copy(0, 0, 6, 0, 1), -11);
        DUE.is("both", x.copy(6, 0, 7, 0, 1), -11);
        DUE.is("-11 ahead of -12", x.copy(4, 0, 6, 0, 1), -11);
        DUE.is("-11 ahead of -12", x.copy(6, 0, 4, 0, 1), -11);
        DUE.is("-11 ahead of -13", x.copy(0, 0, 6, 0, -1), -11);
        DUE.is("a hat", x.copy(4, 0, 1, 0, 1), -12);
        DUE.is("a hat", x.copy(0, 0, 4, 0, 1), -12);
        DUE.is("two hats", x.copy(4, 0, 5, 0, 0), -12);
        DUE.is("bytes", x.copy(0, 0, 2, 0, 1), -12);
        DUE.is("ints", x.copy(0, 0, 3, 0, 1), -12);
        DUE.is("bytes to ints", x.copy(2, 0, 3, 0, 0), -12);
        DUE.is("-12 ahead of -13", x.copy(0, 0, 2, 0, -1), -12);
        DUE.is("-12 ahead of -13", x.copy(4, 9, 1, 0, 1), -12);
        int[] far = {Integer.MIN_VALUE, -1, 5, 101, Integer.MAX_VALUE};
        for (int out : far) {
            DUE.is("from " + out, x.copy(0, out, 1, 0, 1), -13);
            DUE.is("to " + out, x.copy(0, 0, 1, out, 1), -13);
            DUE.is("so many: " + out, x.copy(0, 0, 1, 0, out), -13);
            DUE.is("all of it: " + out, x.copy(0, out, 1, out, out), -13);
            DUE.is("from 1, so many: " + out, x.copy(0, 1, 1, 1, out), -13);
            DUE.is("none from " + out, x.copy(0, out, 1, 0, 0), -13);
        }
        DUE.is("nothing came", x.element(1, 0), 0);
    }

    private static void costOfEach() {
        DUE.sentence("COST of the one on SHELF d: as much as it is WORTH");
        HatsOfTheWind x = new HatsOfTheWind();
        for (int kind = 0; kind < 8; kind++) {
            for (int figure = 0; figure < 10; figure++) {
                x.keep(0, 1, kind, figure);
                HatsOfTheWind worn = Due.street("p001;h" + kind + figure + "0;");
                DUE.is("kind " + kind + ", figure " + figure, x.cost(0), worn.hat(0, 5));
            }
        }
        DUE.sentence("cost: -1, -11, -12 (a ROW)");
        for (int d : NO_SHELF) {
            DUE.is("shelf " + d, x.cost(d), -1);
            DUE.is("toss: shelf " + d, x.toss(d), -1);
        }
        DUE.is("nothing", x.cost(1), -11);
        for (int sort = 0; sort < 3; sort++) {
            x.row(2, sort, 0);
            DUE.is("a row of sort " + sort, x.cost(2), -12);
            DUE.is("toss: a row of sort " + sort, x.toss(2), -12);
        }
    }

    private static void tossOfEach() {
        DUE.sentence("its FIGURE; of PINNED ones 100 more; of AUNTS 200 plus their COST, in place of all that");
        HatsOfTheWind x = new HatsOfTheWind();
        for (int figure = 1; figure < 10; figure++) {
            int[] want = {figure, 100 + figure, figure, -15, 206, figure, -15, figure};
            for (int kind = 0; kind < 8; kind++) {
                x.keep(7, 1, kind, figure);
                DUE.is("kind " + kind + ", figure " + figure, x.toss(7), want[kind]);
                DUE.is("once more", x.toss(7), want[kind]);
            }
        }
    }

    private static void tossOfNone() {
        DUE.sentence("-15: STRAWS, NESTS, and any with FIGURE 0, have none");
        HatsOfTheWind x = new HatsOfTheWind();
        for (int kind = 0; kind < 8; kind++) {
            x.keep(0, 1, kind, 0);
            DUE.is("kind " + kind + ", figure 0", x.toss(0), -15);
        }
        for (int figure = 0; figure < 10; figure++) {
            x.keep(0, 1, 3, figure);
            DUE.is("a STRAW", x.toss(0), -15);
            x.keep(0, 1, 6, figure);
            DUE.is("a NEST", x.toss(0), -15);
        }
    }

    private static void takenFromAShelf() {
        DUE.sentence("The ROW of a text, and what is taken from a SHELF, stay there");
        HatsOfTheWind x = Due.street("p001;p001;p001;");
        x.keep(0, 1, 2, 9);
        for (int person = 0; person < 3; person++) {
            DUE.is("worn", x.wears(0, person), person);
            DUE.is("and there", x.cost(0), 14);
        }
        DUE.is("tossed", x.toss(0), 9);
        DUE.is("and there", x.cost(0), 14);
        x.keep(0, 1, 6, 1);
        DUE.is("what is worn is what it was", x.hat(0, 0), 2);
        DUE.is("its figure, too", x.hat(0, 1), 9);
        Due.layRow(x, 1, 0, 1, 2, 3);
        x.whatIs(1, 0, 0);
        x.wager(1, 0);
        x.forged(1, 0);
        x.judge(1);
        x.street(1);
        x.row(2, 0, 3);
        x.copy(1, 0, 2, 0, 3);
        for (int i = 0; i < 3; i++) {
            DUE.is("the row", x.element(1, i), i + 1);
        }
    }

    private static void imageOfAll() {
        DUE.sentence("THE IMAGE: all that there is; RESTORED all is as it was then");
        HatsOfTheWind x = Due.street("p031;h770;p122;h351;p203;p004;h512;w012;w099;l07;l20;i05;i39;t03;");
        String then = Look.at(x);
        DUE.is("image", x.image(), 0);
        for (int hour = 0; hour < 24; hour++) {
            x.blows(hour, 8);
        }
        for (int place = 0; place < 21; place++) {
            x.shelters(place);
        }
        for (int person = 0; person < 4; person++) {
            x.pins(person, 7);
            x.moves(person, 13);
        }
        x.comes(1, 1);
        x.comes(2, 2);
        x.keep(0, 1, 0, 0);
        x.wears(0, 4);
        x.keep(0, 0, 0, 0);
        x.hours(60);
        DUE.isTrue("all is otherwise", !Look.at(x).equals(then));
        DUE.is("restored", x.restore(), 0);
        DUE.isTrue("all is as it was", Look.at(x).equals(then));
        DUE.is("one more comes behind those", x.comes(5, 5), 4);
        DUE.is("with no pins", x.person(4, 2), 0);
        x.hours(60);
        DUE.is("restored again", x.restore(), 0);
        DUE.isTrue("all is as it was, again", Look.at(x).equals(then));
    }

    private static void imageOnly() {
        DUE.sentence("restore: -3 there is none");
        HatsOfTheWind x = new HatsOfTheWind();
        DUE.is("none", x.restore(), -3);
        x.comes(3, 3);
        DUE.is("none still", x.restore(), -3);
        DUE.is("nothing changed", x.count(0), 1);
        DUE.sentence("THE IMAGE is taken: DAY; THE IMAGE is RESTORED: DAY");
        HatsOfTheWind empty = new HatsOfTheWind();
        DUE.is("of nobody", empty.image(), 0);
        Due.lay(empty, 0, "p001;h000;w009;l00;t60;");
        empty.street(0);
        DUE.is("nobody is there", empty.restore(), 0);
        int[] want = {0, 0, 9, 0, 0, 0, 0};
        for (int what = 0; what < 7; what++) {
            DUE.is("count " + what, empty.count(what), want[what]);
        }
        DUE.is("no wind", empty.wind(0), 0);
        DUE.is("the first who comes", empty.comes(20, 1), 0);
        empty.hours(15);
        DUE.is("a new one in place of the old: DAY 1", empty.image(), 1);
        empty.hours(60);
        DUE.is("day 3", empty.count(3), 3);
        DUE.is("restored: DAY 1", empty.restore(), 1);
        DUE.is("one is there", empty.count(0), 1);
        DUE.is("0 o'clock", empty.count(2), 0);
    }

    private static void imageAndShelves() {
        DUE.sentence("when THE IMAGE is RESTORED, SHELVES stay as they are");
        HatsOfTheWind x = new HatsOfTheWind();
        x.keep(0, 1, 2, 1);
        Due.layRow(x, 1, 1, 5, 6);
        x.keep(3, 1, 2, 2);
        x.image();
        x.keep(0, 0, 0, 0);
        x.put(1, 0, 77);
        x.row(2, 2, 100);
        x.row(3, 0, 1);
        x.keep(4, 1, 2, 4);
        x.restore();
        DUE.is("nothing", x.cost(0), -11);
        DUE.is("what was put behind", x.element(1, 0), 77);
        DUE.is("what was put ahead", x.element(1, 1), 6);
        DUE.is("a row that came", x.element(2, 99), 0);
        DUE.is("a row in place of a hat", x.cost(3), -12);
        DUE.is("a hat that came", x.cost(4), 9);
    }

    private static void imageOfImage() {
        DUE.sentence("all that there is, but SHELVES (and THE IMAGE)");
        HatsOfTheWind x = new HatsOfTheWind();
        x.comes(1, 1);
        x.image();
        x.comes(2, 2);
        x.image();
        x.comes(3, 3);
        DUE.is("the second", x.restore(), 0);
        DUE.is("two", x.count(0), 2);
        DUE.is("again the second, not the first", x.restore(), 0);
        DUE.is("two", x.count(0), 2);
        x.moves(0, 9);
        x.blows(0, 9);
        x.thursdays(20, 1, 0);
        x.stand(0, 9, 0);
        x.restore();
        DUE.is("what came behind is not in it", x.person(0, 0), 1);
        DUE.is("nor winds", x.wind(0), 0);
    }

    private static void countBits() {
        DUE.sentence("count: 4 BARE ones (bits), 5 LOST ones (bits), 6 LEE PLACES (bits); -1 for others");
        HatsOfTheWind x = new HatsOfTheWind();
        int lee = 0;
        for (int place = 0; place < 21; place++) {
            x.shelters(place);
            lee |= 1 << place;
            DUE.is("lee up to " + place, x.count(6), lee);
        }
        for (int place = 0; place < 21; place++) {
            x.shelters(place);
        }
        DUE.is("no lee", x.count(6), 0);
        for (int person = 0; person < 6; person++) {
            x.comes(20, 1);
            DUE.is("bare", x.count(4), (1 << person + 1) - 1);
        }
        x.keep(0, 1, 6, 0);
        for (int person = 5; person >= 0; person--) {
            x.wears(0, person);
            DUE.is("bare up to " + person, x.count(4), (1 << person) - 1);
        }
        x.blows(9, 1);
        DUE.is("all six are bare", x.hours(1), 6);
        DUE.is("all of them", x.count(4), 63);
        DUE.is("lost", x.count(5), 63);
        DUE.is("hats", x.count(1), 6);
        int[] others = {Integer.MIN_VALUE, -1, 7, 8, Integer.MAX_VALUE};
        for (int what : others) {
            DUE.is("count(" + what + ")", x.count(what), -1);
        }
    }
}
