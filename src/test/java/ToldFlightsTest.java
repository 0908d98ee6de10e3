/** Promises 34 to 39: told flights, Thursdays by seeds, the image, what is told. */
public final class ToldFlightsTest {
    private static final Due DUE = new Due("ToldFlightsTest");

    public static void main(String[] args) {
        forged();
        judge();
        thursdays();
        image();
        count();
        DUE.end();
    }

    private static int forged(HatsOfTheWind x, int... flight) {
        Due.layRow(x, 0, 1, flight);
        return x.forged(0, 0);
    }

    private static void forged() {
        HatsOfTheWind x = Due.street("p021;h000;w095;w101;");
        DUE.is("true", forged(x, 2, 7, 8, 8), -4);
        DUE.is("too far", forged(x, 2, 7, 9, 9), 2);
        DUE.is("it does not matter where it is", forged(x, 0, 5, 6), -4);
        DUE.is("the first of several", forged(x, 0, 4, 4), 1);
        DUE.is("the first, out of range", forged(x, 22, 22), 0);
        DUE.is("the first, out of range", forged(x, -1, 4), 0);
        DUE.is("nothing is skipped", forged(x, -32768, 5), 0);
        DUE.is("nothing is skipped", forged(x, 0, -32768), 1);
        DUE.is("lost is told 21", forged(x, 18, 21, 21), -4);
        DUE.is("not 23", forged(x, 18, 23), 1);
        DUE.is("lost from the first", forged(x, 21, 21, 21), -4);
        DUE.is("lost is lost", forged(x, 21, 20), 1);
        DUE.is("at 20", forged(x, 15, 20, 21), -4);
        DUE.is("one alone", forged(x, 20), -4);
        DUE.is("none", forged(x), -4);
        x.shelters(7);
        DUE.is("it lies in the lee", forged(x, 2, 7, 7), -4);
        DUE.is("it lies in the lee", forged(x, 2, 7, 8), 2);
        HatsOfTheWind late = Due.street("p001;h000;t14;w232;w003;");
        DUE.is("behind 23 comes 0", forged(late, 0, 2, 5, 5), -4);
        x.keep(1, 1, 0, 0);
        DUE.is("shelf 8", x.forged(8, 0), -1);
        DUE.is("shelf -1", x.forged(-1, 0), -1);
        DUE.is("hat 1", x.forged(0, 1), -1);
        DUE.is("hat -1", x.forged(0, -1), -1);
        DUE.is("hat 1 ahead of nothing", x.forged(2, 1), -1);
        DUE.is("nothing", x.forged(2, 0), -11);
        DUE.is("a hat", x.forged(1, 0), -12);
    }

    private static int judge(HatsOfTheWind x, int sort, int... heads) {
        Due.layRow(x, 0, sort, heads);
        return x.judge(0);
    }

    private static void judge() {
        HatsOfTheWind x = Due.street("p022;h000;p201;w095;w101;");
        DUE.is("true", judge(x, 0, 1, 2, 2, 1), -4);
        DUE.is("now", judge(x, 0, 0, 2, 2, 1), 0);
        DUE.is("behind 2", judge(x, 0, 1, 2, 1, 9), 2);
        DUE.is("how many, not who", judge(x, 0, 2), 0);
        DUE.is("skipped", judge(x, 0, -128, 2, -128, 1), -4);
        DUE.is("skipped", judge(x, 1, -32768, 2), -4);
        DUE.is("skipped", judge(x, 2, Integer.MIN_VALUE, 2), -4);
        DUE.is("not skipped", judge(x, 1, -128, 2), 0);
        DUE.is("none", judge(x, 2), -4);
        DUE.is("hour", x.count(2), 9);
        x.keep(1, 1, 0, 0);
        DUE.is("shelf 8", x.judge(8), -1);
        DUE.is("shelf -1", x.judge(-1), -1);
        DUE.is("nothing", x.judge(2), -11);
        DUE.is("a hat", x.judge(1), -12);
    }

    private static void thursdays() {
        // Of seed 1 the draws below 10 are 8 8 3 5 1 7 0 9 2 6 9 7 ..: at 9, 10, 11 the HAT flies 6, 15, past 20.
        HatsOfTheWind x = Due.street("p001;h000;p101;h191;");
        DUE.is("lost", x.thursdays(1, 1, 0), 1);
        DUE.is("bare", x.thursdays(1, 1, 1), 1);
        DUE.is("hats are as they were", x.count(5), 0);
        DUE.is("the hour, too", x.count(2), 9);
        DUE.is("the winds, too", x.wind(0), 0);
        // The 9 at 10 takes it with 5 pins, not with 6.
        x.pins(0, 5);
        DUE.is("lost all the same", x.thursdays(1, 1, 1), 1);
        x.pins(0, 6);
        DUE.is("kept", x.thursdays(1, 1, 1), 0);
        DUE.is("kept", x.thursdays(20, 1, 0), 0);
        HatsOfTheWind night = Due.street("p201;h000;t14;");
        DUE.is("from HOUR on: 23 with 1, then 0 with 8", night.thursdays(1, 1, 0), 1);
        HatsOfTheWind twice = Due.street("p201;h000;p201;");
        DUE.is("lost on each of them", twice.thursdays(2, 1, 0), 2);
        DUE.is("who is bare, together", twice.thursdays(2, 1, 1), 3);
        HatsOfTheWind before = Due.street("p201;h000;w095;t01;");
        DUE.is("what was lost counts not", before.thursdays(20, 7, 0), 0);
        DUE.is("n 0", x.thursdays(0, 1, 0), -1);
        DUE.is("n 21", x.thursdays(21, 1, 0), -1);
        DUE.is("what 2", x.thursdays(1, 1, 2), -1);
        DUE.is("what -1", x.thursdays(1, 1, -1), -1);
        DUE.is("any seed", x.thursdays(20, Integer.MIN_VALUE, 0), 0);
    }

    private static void image() {
        HatsOfTheWind x = Due.street("p021;h000;w095;l13;i01;t24;");
        DUE.is("none", x.restore(), -3);
        DUE.is("image: DAY", x.image(), 1);
        x.row(0, 2, 3);
        x.put(0, 1, 77);
        x.blows(9, 0);
        x.blows(3, 3);
        x.shelters(13);
        x.shelters(14);
        x.pins(0, 9);
        x.moves(0, 20);
        x.comes(5, 5);
        x.keep(1, 1, 2, 3);
        x.wears(1, 1);
        x.hours(60);
        x.keep(2, 1, 7, 1);
        DUE.is("restore: DAY", x.restore(), 1);
        DUE.is("people", x.count(0), 1);
        DUE.is("hats", x.count(1), 1);
        DUE.is("hour", x.count(2), 9);
        DUE.is("day", x.count(3), 1);
        DUE.is("lee", x.count(6), 1 << 13);
        DUE.is("wind 9", x.wind(9), 5);
        DUE.is("wind 3", x.wind(3), 0);
        DUE.is("pins", x.person(0, 2), 1);
        DUE.is("hat", x.hat(0, 3), 7);
        DUE.is("shelves stay", x.element(0, 1), 77);
        DUE.is("shelves stay", x.cost(2), 2);
        x.hours(60);
        DUE.is("again", x.restore(), 1);
        DUE.is("hour", x.count(2), 9);
        x.hours(24);
        DUE.is("a new one", x.image(), 2);
        x.hours(24);
        DUE.is("the new one", x.restore(), 2);
    }

    private static void count() {
        HatsOfTheWind x = Due.street("p021;h000;p201;h001;p051;l00;l20;w095;t01;");
        int[] want = {3, 2, 10, 0, 5, 0, 1 + (1 << 20)};
        for (int what = 0; what < 7; what++) {
            DUE.is("count(" + what + ")", x.count(what), want[what]);
        }
        x.shelters(20);
        x.blows(10, 4);
        x.hours(1);
        DUE.is("lee places", x.count(6), 1);
        DUE.is("bare ones", x.count(4), 7);
        DUE.is("lost ones", x.count(5), 2);
        DUE.is("what 7", x.count(7), -1);
        DUE.is("what -1", x.count(-1), -1);
    }
}
