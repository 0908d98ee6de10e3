/** REFUSALS: which of several is told, and that nothing changes by one, nor by what is only thought out. */
public final class BoundsOfRefusalsTest {
    private static final Due DUE = new Due("BoundsOfRefusalsTest");
    private static final int OUT = 99;

    // What the shelves of busy() hold.
    private static final int NOTHING = 0;
    private static final int A_HAT = 1;
    private static final int BYTES = 2;
    private static final int SHORTS = 3;
    private static final int INTS = 4;
    private static final int WRONG_TEXT = 5;

    private static HatsOfTheWind x;
    private static String ahead;

    public static void main(String[] args) {
        comes();
        wears();
        hours();
        street();
        whatIsForgedJudge();
        wager();
        noneBehindRefusals();
        nothingChangesOnTheStreet();
        nothingChangesInMind();
        nothingChangesOnShelves();
        nothingChangesByThoughts();
        imageStays();
        DUE.end();
    }

    /** Somebody bare, somebody with a hat, a hat that is loose and one that is lost; shelves with all there can be. */
    private static HatsOfTheWind busy() {
        HatsOfTheWind y = Due.street("p041;h000;p201;h301;w094;t01;w103;w122;l07;i12;p002;h152;p123;h723;");
        y.keep(A_HAT, 1, 4, 5);
        Due.lay(y, BYTES, "p001;");
        Due.layRow(y, SHORTS, 1, 5, 6, 7);
        Due.layRow(y, INTS, 2, 1, 99, 100);
        Due.lay(y, WRONG_TEXT, "p001;w239;l00;t05;l21;");
        return y;
    }

    private static void comes() {
        DUE.sentence("Answers of several REFUSALS are the first one as they are told at the call: comes: -1, -2");
        HatsOfTheWind y = Due.street("p001;p001;p001;p001;p001;p001;");
        DUE.is("no room", y.comes(0, 1), -2);
        DUE.is("no such place, no room", y.comes(21, 1), -1);
        DUE.is("no such pace, no room", y.comes(0, 6), -1);
        DUE.is("no such pace, no room", y.comes(0, 0), -1);
        DUE.is("six", y.count(0), 6);
    }

    private static void wears() {
        DUE.sentence("wears: -1, -11, -12 (a ROW), -3 he wears one, -2");
        HatsOfTheWind y = Due.street("p201;w099;");
        y.keep(1, 1, 3, 0);
        y.row(2, 0, 1);
        for (int hat = 0; hat < 7; hat++) {
            y.wears(1, 0);
            y.hours(24);
        }
        DUE.is("an eighth", y.wears(1, 0), 7);
        DUE.is("he wears one, no room", y.wears(1, 0), -3);
        DUE.is("nothing, he wears one, no room", y.wears(0, 0), -11);
        DUE.is("a row, he wears one, no room", y.wears(2, 0), -12);
        DUE.is("no such shelf", y.wears(8, 0), -1);
        DUE.is("no such shelf", y.wears(-1, 0), -1);
        DUE.is("no such one, a hat", y.wears(1, 1), -1);
        DUE.is("no such one, nothing", y.wears(0, 1), -1);
        DUE.is("no such one, a row", y.wears(2, -1), -1);
        DUE.is("neither", y.wears(8, 1), -1);
        y.comes(0, 1);
        DUE.is("bare, no room", y.wears(1, 1), -2);
        DUE.is("bare, nothing, no room", y.wears(0, 1), -11);
        DUE.is("bare, a row, no room", y.wears(2, 1), -12);
        DUE.is("eight", y.count(1), 8);
    }

    private static void hours() {
        DUE.sentence("hours: -1, -3 DAY above 999");
        HatsOfTheWind y = new HatsOfTheWind();
        for (int k = 0; k < 399; k++) {
            y.hours(60);
        }
        y.comes(0, 1);
        y.hours(50);
        DUE.is("DAY above 999", y.hours(1), -3);
        DUE.is("no such number, and it", y.hours(61), -1);
        DUE.is("no such number", y.hours(0), -1);
        DUE.is("no such number", y.hours(Integer.MAX_VALUE), -1);
        DUE.is("no such number", y.hours(Integer.MIN_VALUE), -1);
        DUE.is("day", y.count(3), 999);
        DUE.sentence("DAY above 999: some of the hours could go by, none does");
        HatsOfTheWind z = new HatsOfTheWind();
        for (int k = 0; k < 399; k++) {
            z.hours(60);
        }
        z.comes(0, 1);
        // 50 hours are left.
        DUE.is("51", z.hours(51), -3);
        DUE.is("21 o'clock", z.count(2), 21);
        DUE.is("day", z.count(3), 997);
        DUE.is("50", z.hours(50), 1);
    }

    private static void street() {
        DUE.sentence("street: -1, -11, -12; the FAULT behind these");
        HatsOfTheWind y = busy();
        DUE.is("no such shelf", y.street(8), -1);
        DUE.is("nothing", y.street(NOTHING), -11);
        DUE.is("a hat", y.street(A_HAT), -12);
        DUE.is("shorts", y.street(SHORTS), -12);
        DUE.is("ints", y.street(INTS), -12);
        DUE.is("a fault", y.street(WRONG_TEXT), -2018);
        y.row(NOTHING, 1, 0);
        DUE.is("shorts without a byte", y.street(NOTHING), -12);
        y.row(NOTHING, 0, 0);
        DUE.is("bytes without one", y.street(NOTHING), -1000);
    }

    private static void whatIsForgedJudge() {
        DUE.sentence("whatIs, forged: -1 ahead of -11, -12");
        HatsOfTheWind y = busy();
        int[] shelves = {NOTHING, A_HAT, BYTES, 8, -1};
        for (int d : shelves) {
            DUE.is("no such hat, shelf " + d, y.whatIs(d, 4, 0), -1);
            DUE.is("no such what, shelf " + d, y.whatIs(d, 0, 3), -1);
            DUE.is("no such what, shelf " + d, y.whatIs(d, 0, -1), -1);
            DUE.is("no such hat, shelf " + d, y.forged(d, 4), -1);
            DUE.is("no such hat, shelf " + d, y.wager(d, 4), -1);
        }
        DUE.is("whatIs: nothing", y.whatIs(NOTHING, 0, 0), -11);
        DUE.is("whatIs: a hat", y.whatIs(A_HAT, 0, 0), -12);
        DUE.is("forged: nothing", y.forged(NOTHING, 0), -11);
        DUE.is("forged: a hat", y.forged(A_HAT, 0), -12);
        DUE.is("judge: no such shelf", y.judge(8), -1);
        DUE.is("judge: nothing", y.judge(NOTHING), -11);
        DUE.is("judge: a hat", y.judge(A_HAT), -12);
        DUE.is("forged: one that is worn is no refusal", y.forged(SHORTS, 2) >= -4 ? 1 : 0, 1);
    }

    private static void wager() {
        DUE.sentence("wager: -1, -11, -12, -3 it is not WORN, -13 (of none, no such hour)");
        HatsOfTheWind y = busy();
        y.row(6, 0, 0);
        int loose = 0;
        int lost = 1;
        int worn = 2;
        DUE.is("loose", y.hat(loose, 2), 9);
        DUE.is("lost", y.hat(lost, 3), 21);
        DUE.is("worn", y.hat(worn, 2), 2);
        int[] unworn = {loose, lost};
        for (int hat : unworn) {
            DUE.is("no such shelf, not worn", y.wager(8, hat), -1);
            DUE.is("nothing, not worn", y.wager(NOTHING, hat), -11);
            DUE.is("a hat, not worn", y.wager(A_HAT, hat), -12);
            DUE.is("not worn, no such hour", y.wager(INTS, hat), -3);
            DUE.is("not worn, of none", y.wager(6, hat), -3);
            DUE.is("not worn", y.wager(SHORTS, hat), -3);
        }
        DUE.is("nothing", y.wager(NOTHING, worn), -11);
        DUE.is("a hat", y.wager(A_HAT, worn), -12);
        DUE.is("no such hour", y.wager(INTS, worn), -13);
        DUE.is("of none", y.wager(6, worn), -13);
        DUE.is("never taken: it holds 8", y.taken(worn), -4);
        DUE.is("never taken", y.wager(SHORTS, worn), -4);
    }

    private static void noneBehindRefusals() {
        DUE.sentence("-4 none: what is refused is refused though there is none");
        HatsOfTheWind y = Due.street("p001;");
        DUE.is("fewestPins, no such hours", y.fewestPins(0, 0), -1);
        DUE.is("fewestPins, no such hours", y.fewestPins(0, 100), -1);
        DUE.is("fewestPins, he wears none", y.fewestPins(0, 1), -4);
        DUE.is("wear, no such hours", y.wear(0, 100), -1);
        DUE.is("wear, none", y.wear(0, 99), -4);
        DUE.is("shut, no such hours", y.shut(100), -1);
        DUE.is("shut, none", y.shut(99), -4);
        DUE.is("bestSale, no such hours", y.bestSale(-1), -1);
        DUE.is("bestSale, none", y.bestSale(0), -4);
        DUE.is("back, no such hat", y.back(0, 0), -1);
        DUE.is("caught, none", y.caught(0), -4);
    }

    private static void begin() {
        x = busy();
        ahead = Look.at(x);
    }

    private static void refused(String call, long answer, long want) {
        DUE.is(call, answer, want);
        DUE.isTrue(call + " changes nothing", Look.at(x).equals(ahead));
    }

    private static void nothingChangesOnTheStreet() {
        DUE.sentence("REFUSALS (answers; nothing changes): the street as told");
        begin();
        refused("street, no shelf", x.street(8), -1);
        refused("street, nothing", x.street(NOTHING), -11);
        refused("street, a hat", x.street(A_HAT), -12);
        refused("street, shorts", x.street(SHORTS), -12);
        refused("street, a fault", x.street(WRONG_TEXT), -2018);
        refused("hat", x.hat(OUT, 0), -1);
        refused("hat, what", x.hat(0, 6), -1);
        refused("person", x.person(OUT, 0), -1);
        refused("person, what", x.person(0, 4), -1);
        refused("wind", x.wind(24), -1);
        refused("comes, place", x.comes(21, 1), -1);
        refused("comes, pace", x.comes(20, 6), -1);
        refused("wears, shelf", x.wears(8, 0), -1);
        refused("wears, person", x.wears(A_HAT, 4), -1);
        refused("wears, nothing", x.wears(NOTHING, 0), -11);
        refused("wears, a row", x.wears(BYTES, 0), -12);
        refused("wears, he wears one", x.wears(A_HAT, 2), -3);
        refused("blows, hour", x.blows(24, 1), -1);
        refused("blows, wind", x.blows(9, 10), -1);
        refused("shelters", x.shelters(21), -1);
        refused("pins, person", x.pins(4, 1), -1);
        refused("pins, number", x.pins(0, 10), -1);
        refused("moves, person", x.moves(4, 1), -1);
        refused("moves, place", x.moves(0, 21), -1);
        refused("hours", x.hours(61), -1);
        refused("restore", x.restore(), -3);
        refused("count", x.count(7), -1);
    }

    private static void nothingChangesInMind() {
        DUE.sentence("REFUSALS (answers; nothing changes): hours on, and what follows");
        begin();
        refused("hatThen", x.hatThen(0, 100, 0), -1);
        refused("personThen", x.personThen(0, 100), -1);
        refused("then", x.then(100, 0), -1);
        refused("taken", x.taken(0), -3);
        refused("caught", x.caught(OUT), -1);
        refused("back", x.back(0, OUT), -1);
        refused("lost", x.lost(OUT), -1);
        refused("allWear", x.allWear(100), -1);
        refused("stand", x.stand(0, 100, 0), -1);
        refused("wear", x.wear(0, 100), -1);
        refused("calm", x.calm(3), -1);
        refused("fewestPins", x.fewestPins(0, 0), -1);
        refused("fewestPins, bare", x.fewestPins(0, 1), -4);
        refused("shut", x.shut(100), -1);
        refused("bestSale", x.bestSale(100), -1);
        refused("swaps", x.swaps(100), -1);
        refused("whatIs", x.whatIs(A_HAT, 0, 0), -12);
        refused("two", x.two(0, 0, 1), -1);
        refused("gusts", x.gusts(0, 8, 2, 0), 1000000001L);
        refused("mean", x.mean(2), 1000000001L);
        refused("wager", x.wager(INTS, 2), -13);
        refused("forged", x.forged(NOTHING, 0), -11);
        refused("judge", x.judge(A_HAT), -12);
        refused("thursdays", x.thursdays(21, 1, 0), -1);
    }

    private static void nothingChangesOnShelves() {
        DUE.sentence("REFUSALS (answers; nothing changes): shelves");
        begin();
        for (int d = 0; d <= WRONG_TEXT; d++) {
            refused("keep, what", x.keep(d, 2, 0, 0), -1);
            refused("keep, kind", x.keep(d, 1, 8, 0), -1);
            refused("keep, figure", x.keep(d, 1, 0, 10), -1);
            refused("row, sort", x.row(d, 3, 1), -1);
            refused("row, above 100", x.row(d, 0, 101), -1);
            refused("row, below 0", x.row(d, 0, -1), -14);
        }
        refused("keep, shelf", x.keep(8, 0, 0, 0), -1);
        refused("row, shelf", x.row(8, 0, 1), -1);
        refused("put, shelf", x.put(8, 0, 1), -1);
        refused("put, nothing", x.put(NOTHING, 0, 1), -11);
        refused("put, a hat", x.put(A_HAT, 0, 1), -12);
        refused("put, place", x.put(BYTES, 5, 1), -13);
        refused("copy, shelf", x.copy(8, 0, BYTES, 0, 1), -1);
        refused("copy, nothing", x.copy(BYTES, 0, NOTHING, 0, 1), -11);
        refused("copy, sorts", x.copy(BYTES, 0, SHORTS, 0, 1), -12);
        refused("copy, place", x.copy(BYTES, 0, WRONG_TEXT, 0, 6), -13);
        refused("copy, below 0", x.copy(BYTES, 0, WRONG_TEXT, 0, -1), -13);
        refused("cost", x.cost(NOTHING), -11);
        refused("toss", x.toss(BYTES), -12);
        DUE.throwsAt(x, 8, 0, 1);
        DUE.throwsAt(x, BYTES, 5, 2);
        DUE.isTrue("element changes nothing", Look.at(x).equals(ahead));
    }

    private static void answered(String call, long answer) {
        DUE.isTrue(call + " answered " + answer, answer != -1 && answer < 1000000000L);
        DUE.isTrue(call + " changes nothing", Look.at(x).equals(ahead));
    }

    private static void nothingChangesByThoughts() {
        DUE.sentence("In mind: what is thought out changes nothing");
        begin();
        answered("hatThen", x.hatThen(3, 99, 0));
        answered("personThen", x.personThen(0, 99));
        answered("then", x.then(99, 2));
        answered("taken", x.taken(3));
        answered("caught", x.caught(0));
        answered("back", x.back(0, 0));
        answered("lost", x.lost(3));
        answered("allWear", x.allWear(99));
        answered("stand", x.stand(0, 99, 0));
        answered("wear", x.wear(0, 99));
        answered("calm", x.calm(0));
        answered("fewestPins", x.fewestPins(3, 99));
        answered("shut", x.shut(99));
        answered("bestSale", x.bestSale(99));
        answered("race", x.race());
        answered("swaps", x.swaps(99));
        for (int what = 0; what < 3; what++) {
            answered("whatIs", x.whatIs(SHORTS, 3, what));
        }
        answered("two", x.two(0, 3, 24));
        answered("gusts", x.gusts(3, 7, 2, 0));
        answered("mean", x.mean(0));
        answered("wager", x.wager(SHORTS, 3));
        answered("forged", x.forged(SHORTS, 0));
        answered("judge", x.judge(SHORTS));
        answered("thursdays", x.thursdays(20, -7, 1));
        answered("image", x.image());
    }

    private static void imageStays() {
        DUE.sentence("nothing changes, THE IMAGE neither");
        begin();
        x.image();
        x.hours(60);
        String behind = Look.at(x);
        x.street(WRONG_TEXT);
        x.stand(0, 99, 0);
        x.whatIs(SHORTS, 3, 1);
        x.thursdays(20, 1, 0);
        x.shut(99);
        DUE.isTrue("as it was behind these", Look.at(x).equals(behind));
        DUE.is("restored", x.restore(), 0);
        DUE.isTrue("as it was then", Look.at(x).equals(ahead));
    }
}
