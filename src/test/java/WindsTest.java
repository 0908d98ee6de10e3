/** Promises 29 to 33: winds, what it is. */
public final class WindsTest {
    private static final Due DUE = new Due("WindsTest");

    public static void main(String[] args) {
        winds();
        kinds();
        figures();
        whatIsRefused();
        two();
        gusts();
        mean();
        wager();
        DUE.end();
    }

    private static int whatIs(HatsOfTheWind x, int what, int sort, int... row) {
        Due.layRow(x, 0, sort, row);
        return x.whatIs(0, 0, what);
    }

    private static void winds() {
        HatsOfTheWind x = Due.street("p051;h000;w097;");
        DUE.is("5 places", whatIs(x, 0, 0, 5, 10), 1 << 5);
        DUE.is("held", whatIs(x, 0, 0, 5, 5), 15);
        DUE.is("never there", whatIs(x, 0, 0, 6), 0);
        DUE.is("empty", whatIs(x, 0, 0), 1023);
        DUE.is("skipped bytes", whatIs(x, 0, 0, -128, -128), 1023);
        DUE.is("skipped shorts", whatIs(x, 0, 1, -32768, 10), 1 << 5);
        DUE.is("skipped ints", whatIs(x, 0, 2, Integer.MIN_VALUE, 10), 1 << 5);
        DUE.is("-128 of shorts is not skipped", whatIs(x, 0, 1, -128, 10), 0);
        DUE.is("-32768 of ints is not skipped", whatIs(x, 0, 2, -32768, 10), 0);
        DUE.is("the wind is as it was", x.wind(9), 7);
        // He is bare behind 1 hour and follows by 1: behind 6 hours he has it at 10 if it flew 5.
        DUE.is("behind 1 and 7", whatIs(x, 0, 0, 5, 10, 10, -128, -128, -128, -128, 10), 1 << 5);
        HatsOfTheWind late = Due.street("p181;h000;w105;");
        DUE.is("LOST is told 21", whatIs(late, 0, 0, 18, -128, 21), 1023);
        DUE.is("LOST in the first hour", whatIs(late, 0, 0, 18, 21), 1023 - 15);
        // The hour comes again behind 24: 100 elements, the last of them behind 99 hours.
        HatsOfTheWind days = Due.street("p005;h000;");
        days.row(0, 0, 100);
        for (int i = 0; i < 99; i++) {
            days.put(0, i, -128);
        }
        days.put(0, 99, 20);
        DUE.is("four places a day, five times", days.whatIs(0, 0, 0), 1 << 4);
    }

    private static void kinds() {
        HatsOfTheWind x = Due.street("p051;h000;w095;");
        DUE.is("HAT, PINNED", whatIs(x, 1, 0, 5, 10), 3);
        DUE.is("BOWLER, TOPPER", whatIs(x, 1, 0, 5, 11), 4 + 32);
        DUE.is("STRAW", whatIs(x, 1, 0, 5, 15), 8);
        DUE.is("AUNTS", whatIs(x, 1, 0, 5, 5), 16);
        DUE.is("NEST", whatIs(x, 1, 0, 5, 14), 64);
        DUE.is("CAP, caught again", whatIs(x, 1, 0, 5, 6), 128);
        DUE.is("any", whatIs(x, 1, 0, 5), 255);
        DUE.is("it is what it was", x.hat(0, 0), 0);
    }

    private static void figures() {
        HatsOfTheWind x = Due.street("p051;h170;w095;");
        DUE.is("holds less than 5", whatIs(x, 2, 1, 5, 10), 3);
        DUE.is("holds 5", whatIs(x, 2, 1, 5, 5), 1023 - 3);
        DUE.is("any", whatIs(x, 2, 1, 5), 1023);
        DUE.is("its figure is what it was", x.hat(0, 1), 7);
    }

    private static void whatIsRefused() {
        HatsOfTheWind x = Due.street("p051;h170;");
        x.row(0, 0, 1);
        x.keep(1, 1, 0, 0);
        DUE.is("shelf 8", x.whatIs(8, 0, 0), -1);
        DUE.is("shelf -1", x.whatIs(-1, 0, 0), -1);
        DUE.is("hat 1", x.whatIs(0, 1, 0), -1);
        DUE.is("hat -1", x.whatIs(0, -1, 0), -1);
        DUE.is("what 3", x.whatIs(0, 0, 3), -1);
        DUE.is("what -1", x.whatIs(0, 0, -1), -1);
        DUE.is("no such hat ahead of nothing", x.whatIs(2, 1, 0), -1);
        DUE.is("nothing", x.whatIs(2, 0, 0), -11);
        DUE.is("a hat", x.whatIs(1, 0, 0), -12);
    }

    private static void two() {
        // 0 loses his for good but if he holds on; 1 is in the lee.
        HatsOfTheWind x = Due.street("p001;h000;p101;h001;l10;w094;w104;w114;");
        DUE.is("only the one", x.two(0, 1, 3), 10);
        DUE.is("only the other", x.two(1, 0, 3), 1);
        DUE.is("their pins are as they were", x.person(0, 2), 0);
        DUE.is("their pace is as it was", x.person(0, 1), 1);
        HatsOfTheWind calm = Due.street("p001;h000;p101;h001;");
        DUE.is("holding on costs nothing for 2 hours: the first pair", calm.two(0, 1, 2), 0);
        DUE.is("neither", calm.two(0, 1, 24), 0);
        DUE.is("for one hour", calm.two(0, 1, 1), 0);
        HatsOfTheWind gale = Due.street("p001;h000;p101;h001;w094;w104;w114;");
        DUE.is("both", gale.two(0, 1, 3), 11);
        // Bare, the hat one place off: who holds on does not go, and gets none.
        HatsOfTheWind near = Due.street("p001;h000;w095;t01;w090;p201;h191;p061;");
        DUE.is("he goes", near.two(2, 1, 3), 0);
        // Bare where a hat lies: who holds on wears it at once, and keeps it in the wind behind.
        HatsOfTheWind there = Due.street("p001;h000;w095;t01;w114;w124;p201;h191;p051;");
        DUE.is("he holds on, and wears it", there.two(2, 1, 3), 10);
        // Bare, the hat two places off, a wind behind: with pins he would keep it, but who holds on does not get it.
        HatsOfTheWind off = Due.street("p001;h000;w095;t01;w124;p071;p201;h192;");
        DUE.is("he goes, and loses it for a while", off.two(1, 2, 6), 0);
        // What he holds on to would be gone at 9 again, a day on: for 24 hours 8 less.
        HatsOfTheWind day = Due.street("p201;h000;p101;h001;l10;w084;");
        DUE.is("23 without, 24 less 8 with it", day.two(0, 1, 24), 0);
        // Gains 3 and 1 (neither), 1 and 2, 2 and 3, 2 and 2 (both): somebody always has more by the other choice.
        HatsOfTheWind round = Due.street("p044;h300;p023;h701;w091;w104;w116;");
        DUE.is("no such pair", round.two(0, 1, 3), -4);
        DUE.is("one twice", gale.two(1, 1, 3), -1);
        DUE.is("person 2", gale.two(0, 2, 3), -1);
        DUE.is("person 2", gale.two(2, 0, 3), -1);
        DUE.is("person -1", gale.two(-1, 0, 3), -1);
        DUE.is("n 0", gale.two(0, 1, 0), -1);
        DUE.is("n 25", gale.two(0, 1, 25), -1);
    }

    private static void gusty(HatsOfTheWind x, int person, int n, int t, long above, long below) {
        DUE.is("gusts above", x.gusts(person, n, t, 0), above);
        DUE.is("gusts below", x.gusts(person, n, t, 1), below);
    }

    private static void gusts() {
        HatsOfTheWind x = Due.street("p001;h000;w091;w101;p201;");
        gusty(x, 0, 0, 2, 1, 1);
        gusty(x, 1, 0, 2, 0, 1);
        gusty(x, 0, 1, 2, 1, 2);
        gusty(x, 0, 1, 20, 19, 20);
        gusty(x, 0, 2, 3, 4, 9);
        x.shelters(0);
        gusty(x, 0, 7, 20, 1, 1);
        HatsOfTheWind pinned = Due.street("p001;h000;i06;w099;");
        gusty(pinned, 0, 1, 2, 1, 1);
        pinned.pins(0, 5);
        gusty(pinned, 0, 1, 2, 0, 1);
        HatsOfTheWind calm = Due.street("p001;h000;");
        gusty(calm, 0, 7, 2, 1, 1);
        HatsOfTheWind seven = Due.street("p001;h000;w091;w101;w111;w121;w131;w141;w151;");
        gusty(seven, 0, 7, 20, 893871739L, 1280000000L);
        // None at 9: he keeps it, 1/2; one at 9: he is at 4 behind 3 hours more, if it lies there without a gust, 1/16.
        HatsOfTheWind back = Due.street("p001;h000;w091;");
        gusty(back, 0, 4, 2, 9, 16);
        DUE.is("the wind is as it was", back.wind(9), 1);
        HatsOfTheWind chance = Due.street("p001;h000;w091;w121;");
        // None at 9 and none at 12: 1/4; what flew at 9 flies on at 12 without a gust, too.
        gusty(chance, 0, 4, 2, 1, 4);
        DUE.is("person 2", x.gusts(2, 1, 2, 0), 1000000001L);
        DUE.is("person -1", x.gusts(-1, 1, 2, 0), 1000000001L);
        DUE.is("n 8", x.gusts(0, 8, 2, 0), 1000000001L);
        DUE.is("n -1", x.gusts(0, -1, 2, 0), 1000000001L);
        DUE.is("t 1", x.gusts(0, 1, 1, 0), 1000000001L);
        DUE.is("t 21", x.gusts(0, 1, 21, 0), 1000000001L);
        DUE.is("part 2", x.gusts(0, 1, 2, 2), 1000000001L);
        DUE.is("part -1", x.gusts(0, 1, 2, -1), 1000000001L);
    }

    private static void mean() {
        HatsOfTheWind x = new HatsOfTheWind();
        DUE.is("0", x.mean(0), 0);
        DUE.is("of 1", x.mean(1), 1);
        x.blows(0, 1);
        DUE.is("1", x.mean(0), 1);
        DUE.is("of 24", x.mean(1), 24);
        x.blows(23, 9);
        DUE.is("5", x.mean(0), 5);
        DUE.is("of 12", x.mean(1), 12);
        for (int hour = 0; hour < 24; hour++) {
            x.blows(hour, 9);
        }
        DUE.is("9", x.mean(0), 9);
        DUE.is("of 1", x.mean(1), 1);
        DUE.is("part 2", x.mean(2), 1000000001L);
        DUE.is("part -1", x.mean(-1), 1000000001L);
    }

    private static int wager(HatsOfTheWind x, int... bets) {
        Due.layRow(x, 0, 1, bets);
        return x.wager(0, 0);
    }

    private static void wager() {
        HatsOfTheWind x = Due.street("p001;h000;w124;");
        DUE.is("4: as near, the first", wager(x, 1, 6, 3, 5), 2);
        DUE.is("the very hour", wager(x, 3, 5, 4, 4), 2);
        DUE.is("one alone", wager(x, 99), 0);
        DUE.is("of none", wager(x), -13);
        DUE.is("hour 0", wager(x, 4, 0), -13);
        DUE.is("hour 100", wager(x, 4, 100), -13);
        DUE.is("the least number is no hour", wager(x, 4, -32768), -13);
        x.pins(0, 9);
        DUE.is("never", wager(x, 4), -4);
        DUE.is("never, and no such hour", wager(x, 0), -13);
        x.keep(1, 1, 0, 0);
        DUE.is("shelf 8", x.wager(8, 0), -1);
        DUE.is("hat 1", x.wager(0, 1), -1);
        DUE.is("hat 1 ahead of nothing", x.wager(2, 1), -1);
        DUE.is("nothing", x.wager(2, 0), -11);
        DUE.is("a hat", x.wager(1, 0), -12);
        HatsOfTheWind loose = Due.street("p001;h000;w094;t01;");
        DUE.is("not worn", wager(loose, 4), -3);
        DUE.is("not worn ahead of none", wager(loose), -3);
        loose.keep(0, 0, 0, 0);
        DUE.is("nothing ahead of not worn", loose.wager(0, 0), -11);
    }
}
