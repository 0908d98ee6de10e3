/** Promises 40 to 46: shelves. */
public final class ShelvesTest {
    private static final Due DUE = new Due("ShelvesTest");

    public static void main(String[] args) {
        keep();
        row();
        put();
        element();
        copy();
        cost();
        toss();
        DUE.end();
    }

    private static void keep() {
        HatsOfTheWind x = new HatsOfTheWind();
        DUE.is("a hat", x.keep(0, 1, 7, 9), 0);
        DUE.is("on the last shelf", x.keep(7, 1, 0, 0), 0);
        DUE.is("shelf 8", x.keep(8, 1, 0, 0), -1);
        DUE.is("shelf -1", x.keep(-1, 0, 0, 0), -1);
        DUE.is("what 2", x.keep(0, 2, 0, 0), -1);
        DUE.is("what -1", x.keep(0, -1, 0, 0), -1);
        DUE.is("kind 8", x.keep(0, 1, 8, 0), -1);
        DUE.is("kind -1", x.keep(0, 1, -1, 0), -1);
        DUE.is("figure 10", x.keep(0, 1, 0, 10), -1);
        DUE.is("figure -1", x.keep(0, 1, 0, -1), -1);
        DUE.is("it is there still", x.toss(0), 9);
        DUE.is("nothing, the others do not matter", x.keep(0, 0, -5, 99), 0);
        DUE.is("nothing is there", x.cost(0), -11);
        x.row(0, 0, 3);
        DUE.is("in place of a row", x.keep(0, 1, 1, 1), 0);
        DUE.is("no row", x.put(0, 0, 0), -12);
    }

    private static void row() {
        HatsOfTheWind x = new HatsOfTheWind();
        DUE.is("bytes", x.row(0, 0, 100), 0);
        DUE.is("ints", x.row(7, 2, 0), 0);
        DUE.is("shelf 8", x.row(8, 0, 1), -1);
        DUE.is("shelf -1", x.row(-1, 0, 1), -1);
        DUE.is("sort 3", x.row(0, 3, 1), -1);
        DUE.is("sort -1", x.row(0, -1, 1), -1);
        DUE.is("n 101", x.row(0, 0, 101), -1);
        DUE.is("n -1", x.row(0, 0, -1), -14);
        DUE.is("no such shelf ahead of below 0", x.row(8, 0, -1), -1);
        DUE.is("no such sort ahead of below 0", x.row(0, 3, -1), -1);
        DUE.is("it is there still", x.put(0, 99, 5), 0);
        DUE.is("a new one", x.row(0, 1, 100), 0);
        DUE.is("0 at first", x.element(0, 99), 0);
        x.keep(0, 1, 0, 0);
        DUE.is("in place of a hat", x.row(0, 0, 1), 0);
        DUE.is("no hat", x.cost(0), -12);
    }

    private static void put() {
        HatsOfTheWind x = new HatsOfTheWind();
        x.row(0, 0, 3);
        x.row(1, 1, 3);
        x.row(2, 2, 3);
        x.keep(3, 1, 0, 0);
        int[] values = {0, 127, 128, -128, 255, 256, 32768, -32769, 70000, Integer.MAX_VALUE, Integer.MIN_VALUE};
        for (int v : values) {
            for (int d = 0; d < 3; d++) {
                DUE.is("put", x.put(d, 2, v), 0);
            }
            DUE.is("lowest 8 bits of " + v, x.element(0, 2), (byte) v);
            DUE.is("lowest 16 bits of " + v, x.element(1, 2), (short) v);
            DUE.is("all of " + v, x.element(2, 2), v);
        }
        DUE.is("the others are as they were", x.element(0, 1), 0);
        DUE.is("shelf 8", x.put(8, 0, 0), -1);
        DUE.is("shelf -1", x.put(-1, 0, 0), -1);
        DUE.is("nothing", x.put(4, 0, 0), -11);
        DUE.is("a hat", x.put(3, 0, 0), -12);
        DUE.is("a hat ahead of no place", x.put(3, 9, 0), -12);
        DUE.is("place 3", x.put(0, 3, 0), -13);
        DUE.is("place -1", x.put(0, -1, 0), -13);
    }

    private static void element() {
        HatsOfTheWind x = new HatsOfTheWind();
        Due.layRow(x, 0, 2, 5, -6, 7);
        x.keep(1, 1, 0, 0);
        DUE.is("element", x.element(0, 0), 5);
        DUE.is("element", x.element(0, 1), -6);
        DUE.is("element", x.element(0, 2), 7);
        DUE.throwsAt(x, 8, 0, 1);
        DUE.throwsAt(x, -1, 0, 1);
        DUE.throwsAt(x, 8, 9, 1);
        DUE.throwsAt(x, 0, 3, 2);
        DUE.throwsAt(x, 0, -1, 2);
        DUE.throwsAt(x, 1, 0, 2);
        DUE.throwsAt(x, 2, 0, 2);
    }

    private static void row(HatsOfTheWind x, int d, long... want) {
        for (int i = 0; i < want.length; i++) {
            DUE.is("element(" + d + ", " + i + ")", x.element(d, i), want[i]);
        }
    }

    private static void copy() {
        HatsOfTheWind x = new HatsOfTheWind();
        Due.layRow(x, 0, 1, 1, 2, 3, 4, 5);
        Due.layRow(x, 1, 1, 9, 9, 9);
        Due.layRow(x, 2, 0, 7, 7);
        x.keep(3, 1, 0, 0);
        DUE.is("copy", x.copy(0, 3, 1, 1, 2), 2);
        row(x, 1, 9, 4, 5);
        row(x, 0, 1, 2, 3, 4, 5);
        DUE.is("onto itself, later", x.copy(0, 0, 0, 1, 4), 4);
        row(x, 0, 1, 1, 2, 3, 4);
        DUE.is("onto itself, earlier", x.copy(0, 2, 0, 0, 3), 3);
        row(x, 0, 2, 3, 4, 3, 4);
        DUE.is("none, from the ends", x.copy(0, 5, 1, 3, 0), 0);
        DUE.is("shelf 8", x.copy(8, 0, 1, 0, 1), -1);
        DUE.is("shelf -1", x.copy(0, 0, -1, 0, 1), -1);
        DUE.is("no such shelf ahead of nothing", x.copy(4, 0, 8, 0, 1), -1);
        DUE.is("nothing", x.copy(4, 0, 1, 0, 1), -11);
        DUE.is("nothing", x.copy(1, 0, 4, 0, 1), -11);
        DUE.is("nothing ahead of a hat", x.copy(3, 0, 4, 0, 1), -11);
        DUE.is("a hat", x.copy(3, 0, 1, 0, 1), -12);
        DUE.is("a hat", x.copy(1, 0, 3, 0, 1), -12);
        DUE.is("a hat, and bytes", x.copy(3, 0, 2, 0, 1), -12);
        DUE.is("bytes, and a hat", x.copy(2, 0, 3, 0, 1), -12);
        DUE.is("another sort", x.copy(0, 0, 2, 0, 1), -12);
        DUE.is("another sort ahead of no place", x.copy(0, 0, 2, 0, -1), -12);
        DUE.is("n -1", x.copy(0, 0, 1, 0, -1), -13);
        DUE.is("past the first one's end", x.copy(0, 4, 1, 0, 2), -13);
        DUE.is("past the other's end", x.copy(0, 0, 1, 2, 2), -13);
        DUE.is("i -1", x.copy(0, -1, 1, 0, 1), -13);
        DUE.is("j -1", x.copy(0, 0, 1, -1, 1), -13);
        DUE.is("far out", x.copy(0, Integer.MAX_VALUE, 1, 0, Integer.MAX_VALUE), -13);
        DUE.is("none, but past the end", x.copy(0, 6, 1, 0, 0), -13);
        row(x, 1, 9, 4, 5);
    }

    private static void cost() {
        HatsOfTheWind x = new HatsOfTheWind();
        int[] want = {2, 3, 9, 1, 6, 18, 4, 2};
        for (int kind = 0; kind < 8; kind++) {
            x.keep(5, 1, kind, 4);
            DUE.is("cost of kind " + kind, x.cost(5), want[kind]);
        }
        layNothingAndARow(x);
        DUE.is("shelf 8", x.cost(8), -1);
        DUE.is("shelf -1", x.cost(-1), -1);
        DUE.is("nothing", x.cost(0), -11);
        DUE.is("a row", x.cost(1), -12);
    }

    private static void toss() {
        HatsOfTheWind x = new HatsOfTheWind();
        int[] want = {4, 104, 4, -15, 206, 4, -15, 4};
        for (int kind = 0; kind < 8; kind++) {
            x.keep(5, 1, kind, 4);
            DUE.is("toss of kind " + kind, x.toss(5), want[kind]);
            x.keep(5, 1, kind, 0);
            DUE.is("toss of kind " + kind + " with figure 0", x.toss(5), -15);
        }
        layNothingAndARow(x);
        DUE.is("shelf 8", x.toss(8), -1);
        DUE.is("shelf -1", x.toss(-1), -1);
        DUE.is("nothing", x.toss(0), -11);
        DUE.is("a row", x.toss(1), -12);
    }

    private static void layNothingAndARow(HatsOfTheWind x) {
        x.keep(0, 0, 0, 0);
        x.row(1, 0, 1);
    }
}
