/** The boundary cases of WINDS to THURSDAYS and of promises 29 to 36, a sentence at a time. */
public final class BoundsOfWindsTest {
    private static final Due DUE = new Due("BoundsOfWindsTest");
    private static final int[] FAR_OUT = {Integer.MIN_VALUE, -1, 8, 9, Integer.MAX_VALUE};
    private static final int[] LEAST = {-128, -32768, Integer.MIN_VALUE};
    private static final long NO_SUCH = 1000000001L;

    public static void main(String[] args) {
        behindNoHours();
        leastNumberSkipped();
        oneHundredElements();
        windBits();
        kindBits();
        figureBits();
        whatIsOfOneLost();
        whatIsRefused();
        twoForHours();
        twoLessForThree();
        twoFirstPair();
        twoRefused();
        gustsNineAtMost();
        gustsNotInTheLee();
        gustsForHours();
        gustsRefused();
        mean();
        wagerNearest();
        wagerHours();
        forgedFirst();
        forgedLost();
        forgedHourByHour();
        judged();
        thursdaysByNumber();
        thursdaysTogether();
        draws();
        DUE.end();
    }

    private static int whatIs(HatsOfTheWind x, int what, int sort, int... row) {
        Due.layRow(x, 0, sort, row);
        return x.whatIs(0, 0, what);
    }

    private static void behindNoHours() {
        DUE.sentence("a ROW tells where a HAT is behind 0, 1, .. hours");
        HatsOfTheWind x = Due.street("p051;h000;w095;");
        for (int sort = 0; sort < 3; sort++) {
            DUE.is("an empty row: all winds", whatIs(x, 0, sort), 1023);
            DUE.is("an empty row: all kinds", whatIs(x, 1, sort), 255);
            DUE.is("an empty row: all figures", whatIs(x, 2, sort), 1023);
            DUE.is("where it is now", whatIs(x, 0, sort, 5), 1023);
            DUE.is("where it is not now", whatIs(x, 0, sort, 4), 0);
            DUE.is("behind 1", whatIs(x, 0, sort, 5, 10), 1 << 5);
            DUE.is("not behind 0", whatIs(x, 0, sort, 10), 0);
            DUE.is("no place at all", whatIs(x, 0, sort, 5, -1), 0);
            DUE.is("nor 22", whatIs(x, 0, sort, 5, 22), 0);
        }
    }

    private static void leastNumberSkipped() {
        DUE.sentence("(the least number of the SORT is skipped)");
        HatsOfTheWind x = Due.street("p051;h000;w095;");
        for (int sort = 0; sort < 3; sort++) {
            int least = LEAST[sort];
            DUE.is("skipped alone", whatIs(x, 0, sort, least), 1023);
            DUE.is("skipped ahead", whatIs(x, 0, sort, least, 10), 1 << 5);
            DUE.is("skipped behind", whatIs(x, 0, sort, 5, 10, least), 1 << 5);
            DUE.is("one above the least is not", whatIs(x, 0, sort, least + 1, 10), 0);
            DUE.is("kinds", whatIs(x, 1, sort, least, 11), 4 + 32);
            DUE.is("figures", whatIs(x, 2, sort, least, 10), 1023);
        }
        DUE.is("-128 of shorts is not", whatIs(x, 0, 1, -128), 0);
        DUE.is("-128 of ints is not", whatIs(x, 0, 2, -128), 0);
        DUE.is("-32768 of ints is not", whatIs(x, 0, 2, -32768), 0);
        DUE.is("the most is not", whatIs(x, 0, 0, 127), 0);
        DUE.is("the most of ints is not", whatIs(x, 0, 2, Integer.MAX_VALUE), 0);
    }

    private static void oneHundredElements() {
        DUE.sentence("behind 0, 1, .. hours: 100 elements, the last of them behind 99");
        // The wind of 11 takes it by 4 behind 3, 27, 51, 75 hours, to 20, and past it behind 99.
        HatsOfTheWind x = Due.street("p045;h000;w114;");
        x.row(0, 2, 100);
        for (int i = 0; i < 99; i++) {
            x.put(0, i, Integer.MIN_VALUE);
        }
        x.put(0, 99, 20);
        // A wind at 9, too, would take it farther.
        DUE.is("not at 20 then, by any wind", x.whatIs(0, 0, 0), 0);
        x.put(0, 99, 21);
        DUE.is("lost then, by any wind", x.whatIs(0, 0, 0), 1023);
        x.put(0, 98, 20);
        DUE.is("at 20 behind 98, if 9 o'clock lets it be", x.whatIs(0, 0, 0), 15);
        x.put(0, 3, 8);
        x.put(0, 2, 4);
        DUE.is("and at 8 behind 3", x.whatIs(0, 0, 0), 15);
        x.put(0, 99, 20);
        DUE.is("the last one counts", x.whatIs(0, 0, 0), 0);
        DUE.sentence("JUDGED behind 0, 1, .. hours: 100 elements, the last of them behind 99");
        x.row(0, 0, 100);
        DUE.is("nobody is bare behind 0 .. 98, one behind 99", x.judge(0), 99);
        x.put(0, 99, 1);
        DUE.is("so it is", x.judge(0), -4);
        x.put(0, 98, 1);
        DUE.is("not behind 98", x.judge(0), 98);
    }

    private static void windBits() {
        DUE.sentence("WIND (bits 0 .. 9) of HOUR now by which all of it is so");
        for (int v = 4; v < 10; v++) {
            HatsOfTheWind x = Due.street("p001;h000;");
            DUE.is("wind " + v, whatIs(x, 0, 0, 0, v), 1 << v);
        }
        HatsOfTheWind x = Due.street("p001;h000;w099;");
        DUE.is("0 .. 3 let it be", whatIs(x, 0, 0, 0, 0), 15);
        DUE.is("10 is no wind", whatIs(x, 0, 0, 0, 10), 0);
        x.shelters(0);
        DUE.is("in the lee any", whatIs(x, 0, 0, 0, 0), 1023);
        DUE.is("the wind is as it was", x.wind(9), 9);
        // HOUR comes again behind 24 hours, with the same wind.
        HatsOfTheWind again = Due.street("p005;h000;");
        again.row(0, 0, 26);
        for (int i = 0; i < 25; i++) {
            again.put(0, i, -128);
        }
        again.put(0, 25, 10);
        DUE.is("twice 5", again.whatIs(0, 0, 0), 1 << 5);
    }

    private static void kindBits() {
        DUE.sentence("KINDS (bits) of it");
        HatsOfTheWind x = Due.street("p001;h390;w099;");
        DUE.is("HAT; PINNED and AUNTS hold with FIGURE 9", whatIs(x, 1, 0, 0, 9), 1);
        DUE.is("PINNED, AUNTS, CAP", whatIs(x, 1, 0, 0, 0), 2 + 16 + 128);
        DUE.is("BOWLER", whatIs(x, 1, 0, 0, 10), 4);
        DUE.is("TOPPER", whatIs(x, 1, 0, 0, 13), 32);
        DUE.is("STRAW", whatIs(x, 1, 0, 0, 18), 8);
        DUE.is("NEST", whatIs(x, 1, 0, 0, 17), 64);
        DUE.is("none", whatIs(x, 1, 0, 0, 20), 0);
        DUE.is("what it is stays", x.hat(0, 0), 3);
    }

    private static void figureBits() {
        DUE.sentence("FIGURES (bits 0 .. 9)");
        HatsOfTheWind x = Due.street("p001;h500;w099;");
        DUE.is("0 .. 2", whatIs(x, 2, 0, 0, 10), 7);
        DUE.is("3 .. 5", whatIs(x, 2, 0, 0, 11), 7 << 3);
        DUE.is("6 .. 8", whatIs(x, 2, 0, 0, 12), 7 << 6);
        DUE.is("9", whatIs(x, 2, 0, 0, 13), 1 << 9);
        DUE.is("none", whatIs(x, 2, 0, 0, 14), 0);
        HatsOfTheWind cap = Due.street("p001;h700;w099;");
        DUE.is("9 alone holds 9", whatIs(cap, 2, 0, 0, 0), 1 << 9);
        DUE.is("what it is stays", cap.hat(0, 1), 0);
    }

    private static void whatIsOfOneLost() {
        DUE.sentence("where a HAT is: LOST 21");
        HatsOfTheWind x = Due.street("p201;h000;w099;t01;");
        DUE.is("lost now", whatIs(x, 0, 0, 21), 1023);
        DUE.is("lost ever after", whatIs(x, 1, 0, 21, 21, 21), 255);
        DUE.is("not at 20", whatIs(x, 2, 0, 20), 0);
        HatsOfTheWind y = Due.street("p131;h000;");
        DUE.is("21 is past 20: 8 and 9", whatIs(y, 0, 0, 13, 21), 3 << 8);
        DUE.is("22 is not told", whatIs(y, 0, 0, 13, 22), 0);
    }

    private static void whatIsRefused() {
        DUE.sentence("whatIs: -1, -11, -12 (no ROW)");
        HatsOfTheWind x = Due.street("p201;h000;");
        x.row(0, 0, 0);
        x.keep(1, 1, 0, 0);
        for (int far : FAR_OUT) {
            DUE.is("shelf", x.whatIs(far, 0, 0), -1);
            DUE.is("hat", x.whatIs(0, far, 0), -1);
            DUE.is("what", x.whatIs(0, 0, far), -1);
            DUE.is("forged: shelf", x.forged(far, 0), -1);
            DUE.is("forged: hat", x.forged(0, far), -1);
            DUE.is("wager: shelf", x.wager(far, 0), -1);
            DUE.is("wager: hat", x.wager(0, far), -1);
            DUE.is("judge: shelf", x.judge(far), -1);
        }
        DUE.is("what 3", x.whatIs(0, 0, 3), -1);
        DUE.is("the next hat", x.whatIs(0, 1, 0), -1);
        DUE.is("nothing", x.whatIs(2, 0, 0), -11);
        DUE.is("a hat", x.whatIs(1, 0, 0), -12);
        HatsOfTheWind none = new HatsOfTheWind();
        none.row(0, 0, 0);
        DUE.is("there is no hat", none.whatIs(0, 0, 0), -1);
        DUE.is("there is no hat", none.forged(0, 0), -1);
        DUE.is("there is no hat", none.wager(0, 0), -1);
        DUE.is("nobody is bare", none.judge(0), -4);
    }

    private static void twoForHours() {
        DUE.sentence("TWO .. for n hours (1 .. 24)");
        // At 8 o'clock, the last of 24 hours: the one who does not hold on is without a hat for that one alone.
        HatsOfTheWind last = Due.street("p201;h000;p101;h191;w084;");
        DUE.is("24 hours: 8 less is more than 1", last.two(0, 1, 24), 0);
        DUE.is("23 hours", last.two(0, 1, 23), 0);
        HatsOfTheWind first = Due.street("p201;h000;p101;h191;w094;");
        DUE.is("1 hour: nothing less", first.two(0, 1, 1), 10);
        DUE.is("24 hours: 8 less, but 16", first.two(0, 1, 24), 10);
        DUE.is("0 hours", first.two(0, 1, 0), -1);
        DUE.is("25 hours", first.two(0, 1, 25), -1);
    }

    private static void twoLessForThree() {
        DUE.sentence("1 less for every 3 hours, cut, if he holds on");
        // Without holding on 0 is bare for one hour alone, that of 9, and has it again at 24.
        HatsOfTheWind x = Due.street("p105;h200;p001;h191;w095;");
        DUE.is("bare behind 1", x.then(1, 0), 1);
        DUE.is("not behind 2", x.then(2, 0), 0);
        DUE.is("2 hours: nothing less, one more", x.two(0, 1, 2), 10);
        DUE.is("3 hours: 1 less, one more: alike, the first", x.two(0, 1, 3), 0);
        DUE.is("5 hours: still 1 less", x.two(0, 1, 5), 0);
        DUE.is("6 hours: 2 less", x.two(0, 1, 6), 0);
        // Behind 3 hours 0 has the hat of 1; one hour later holding on would be worth more than it costs.
        HatsOfTheWind third = Due.street("p185;p133;h001;w117;");
        DUE.is("taken behind 3", third.taken(0), 3);
        DUE.is("0 has it then", third.hatThen(0, 3, 1), 0);
        DUE.is("3 hours: for 1 it is 2 and 3 less 1", third.two(0, 1, 3), 0);
        DUE.is("the other way round", third.two(1, 0, 3), 0);
        DUE.is("4 hours: 2 and 4 less 1", third.two(0, 1, 4), 1);
        DUE.is("the other way round", third.two(1, 0, 4), 10);
        // Bare for two hours: 2 less comes with 6.
        HatsOfTheWind y = Due.street("p103;h200;p001;h191;w095;");
        DUE.is("bare behind 1", y.then(1, 0), 1);
        DUE.is("not behind 2", y.then(2, 0), 0);
        HatsOfTheWind z = Due.street("p102;h200;p001;h191;w095;");
        DUE.is("bare behind 2", z.then(2, 0), 1);
        DUE.is("not behind 3", z.then(3, 0), 0);
        DUE.is("3 hours: 1 less, two more", z.two(0, 1, 3), 10);
        DUE.is("5 hours: 1 less, two more", z.two(0, 1, 5), 10);
        DUE.is("6 hours: 2 less, two more", z.two(0, 1, 6), 0);
        DUE.is("the other way round", z.two(1, 0, 5), 1);
    }

    private static void twoFirstPair() {
        DUE.sentence("the first pair (10 the one's and the other's) by which neither has more by another choice alone; -4");
        HatsOfTheWind calm = Due.street("p001;h000;p101;h001;");
        DUE.is("all alike: 0", calm.two(0, 1, 1), 0);
        HatsOfTheWind both = Due.street("p201;h000;p201;h001;w094;");
        DUE.is("both: 11", both.two(0, 1, 1), 11);
        DUE.is("both: 11", both.two(1, 0, 24), 11);
        DUE.is("none", Due.street("p044;h300;p023;h701;w091;w104;w116;").two(0, 1, 3), -4);
        // One hat lies between them: the least number takes it first.
        HatsOfTheWind bare = Due.street("p001;p201;");
        DUE.is("no hats: 0", bare.two(0, 1, 24), 0);
        DUE.sentence("hold on (1: PINS 9 from now, he does not go)");
        // Held with 9 pins against 9; a NEST holds 0.
        HatsOfTheWind nest = Due.street("p201;h600;p101;h191;w099;");
        DUE.is("9 pins hold a NEST by 9", nest.two(0, 1, 1), 10);
        DUE.is("his pins are as they were", nest.person(0, 2), 0);
        // Both stand one place off a loose hat: he who holds on does not get there.
        HatsOfTheWind off = Due.street("p041;h000;w094;t01;w090;p071;p201;h191;");
        off.moves(0, 0);
        DUE.is("it would cost nothing for 2 hours, but he does not go", off.two(1, 2, 2), 0);
        DUE.is("he is where he was", off.person(1, 0), 7);
    }

    private static void twoRefused() {
        DUE.sentence("two: -1 (one twice)");
        HatsOfTheWind x = Due.street("p001;h000;p101;h001;");
        DUE.is("one twice", x.two(0, 0, 1), -1);
        DUE.is("one twice", x.two(1, 1, 1), -1);
        DUE.is("the next one", x.two(0, 2, 1), -1);
        DUE.is("the next one", x.two(2, 0, 1), -1);
        for (int far : FAR_OUT) {
            DUE.is("the one", x.two(far, 1, 1), -1);
            DUE.is("the other", x.two(0, far, 1), -1);
        }
        int[] hours = {Integer.MIN_VALUE, -1, 0, 25, Integer.MAX_VALUE};
        for (int n : hours) {
            DUE.is("hours " + n, x.two(0, 1, n), -1);
        }
    }

    private static void gusty(String what, HatsOfTheWind x, int n, int t, long above, long below) {
        DUE.is(what + ", above", x.gusts(0, n, t, 0), above);
        DUE.is(what + ", below", x.gusts(0, n, t, 1), below);
    }

    private static void gustsNineAtMost() {
        DUE.sentence("the wind is 3 more .. (9 at most)");
        // A CAP of FIGURE 9 holds 9; with wind 12 it would be gone.
        gusty("9 stays 9", Due.street("p001;h790;w099;"), 1, 2, 1, 1);
        gusty("7 becomes 9", Due.street("p001;h790;w097;"), 1, 2, 1, 1);
        gusty("5 becomes 8: holds 8", Due.street("p001;h790;w095;"), 1, 2, 1, 1);
        gusty("6 becomes 9, a PINNED one of 5 holds 8", Due.street("p001;h150;w096;"), 1, 2, 1, 2);
        gusty("5 becomes 8, it holds 8", Due.street("p001;h150;w095;"), 1, 2, 1, 1);
        gusty("0 becomes 3, a HAT holds 3", Due.street("p001;h000;"), 1, 2, 1, 1);
        gusty("1 becomes 4", Due.street("p001;h000;w091;"), 1, 2, 1, 2);
        gusty("0 becomes 3, a STRAW holds 2", Due.street("p001;h300;"), 1, 20, 19, 20);
    }

    private static void gustsNotInTheLee() {
        DUE.sentence("everywhere but in the LEE");
        gusty("in the lee", Due.street("p001;h600;l00;w099;"), 7, 2, 1, 1);
        gusty("the lee elsewhere", Due.street("p201;h600;l00;w099;"), 1, 2, 0, 1);
    }

    private static void gustsForHours() {
        DUE.sentence("in each of n hours (0 .. 7), by itself, .. with odds 1 in t (2 .. 20): .. a fraction in least terms");
        HatsOfTheWind x = Due.street("p201;h000;w091;w101;w111;w121;w131;w141;w151;w161;");
        gusty("0 hours, he wears one", x, 0, 2, 1, 1);
        gusty("0 hours, whatever t", x, 0, 20, 1, 1);
        gusty("1 hour", x, 1, 2, 1, 2);
        gusty("2 hours", x, 2, 2, 1, 4);
        gusty("7 hours", x, 7, 2, 1, 128);
        gusty("7 hours, t 3", x, 7, 3, 128, 2187);
        gusty("7 hours, t 20", x, 7, 20, 893871739L, 1280000000L);
        gusty("0 hours, bare", Due.street("p001;"), 0, 2, 0, 1);
        gusty("7 hours, bare", Due.street("p001;"), 7, 20, 0, 1);
        gusty("sure", Due.street("p001;h000;"), 7, 20, 1, 1);
        // A gust at 9 takes it; there is no other wind, and in the next hour a gust may do so again.
        HatsOfTheWind least = Due.street("p201;h300;");
        gusty("no gust twice in 1 in 4: 9 in 16", least, 2, 4, 9, 16);
        gusty("1 in 2, 4 hours", least, 4, 2, 1, 16);
        // Hours go over midnight.
        HatsOfTheWind night = Due.street("p201;h000;t13;w231;w001;");
        gusty("22, 23 and 0", night, 3, 2, 1, 4);
    }

    private static void gustsRefused() {
        DUE.sentence("gusts. Refused as told: -1 is told as 1000000001");
        HatsOfTheWind x = Due.street("p001;h000;");
        for (int far : FAR_OUT) {
            DUE.is("person", x.gusts(far, 1, 2, 0), NO_SUCH);
            DUE.is("hours", x.gusts(0, far, 2, 0), NO_SUCH);
            DUE.is("part", x.gusts(0, 1, 2, far), NO_SUCH);
            DUE.is("mean: part", x.mean(far), NO_SUCH);
        }
        DUE.is("the next one", x.gusts(1, 1, 2, 0), NO_SUCH);
        int[] odds = {Integer.MIN_VALUE, -2, -1, 0, 1, 21, Integer.MAX_VALUE};
        for (int t : odds) {
            DUE.is("odds 1 in " + t, x.gusts(0, 1, t, 0), NO_SUCH);
            DUE.is("odds 1 in " + t + ", no hours", x.gusts(0, 0, t, 1), NO_SUCH);
        }
        DUE.is("part 2", x.gusts(0, 1, 2, 2), NO_SUCH);
        DUE.is("part 2", x.mean(2), NO_SUCH);
    }

    private static void mean() {
        DUE.sentence("MEAN WIND of 24 hours: a fraction in least terms");
        HatsOfTheWind x = new HatsOfTheWind();
        long sum = 0;
        long[] above = {0, 3, 3, 9, 3, 15, 9, 21, 3, 27};
        long[] below = {1, 8, 4, 8, 2, 8, 4, 8, 1, 8};
        for (int hour = 0; hour < 10; hour++) {
            DUE.is(sum + " of 24, above", x.mean(0), above[hour]);
            DUE.is(sum + " of 24, below", x.mean(1), below[hour]);
            x.blows(23 - hour, 9);
            sum += 9;
        }
        for (int hour = 0; hour < 24; hour++) {
            x.blows(hour, 9);
        }
        DUE.is("all 9, above", x.mean(0), 9);
        DUE.is("all 9, below", x.mean(1), 1);
        x.blows(0, 8);
        DUE.is("215", x.mean(0), 215);
        DUE.is("24", x.mean(1), 24);
        x.shelters(0);
        DUE.is("the lee does not matter", x.mean(0), 215);
    }

    private static int wager(HatsOfTheWind x, int sort, int... bets) {
        Due.layRow(x, 0, sort, bets);
        return x.wager(0, 0);
    }

    private static void wagerNearest() {
        DUE.sentence("who is nearest (the first), -4 it is never TAKEN");
        HatsOfTheWind x = Due.street("p001;h000;w184;");
        DUE.is("taken behind 10", x.taken(0), 10);
        DUE.is("below and above alike: the first", wager(x, 0, 8, 12), 0);
        DUE.is("above and below alike: the first", wager(x, 0, 12, 8), 0);
        DUE.is("nearer behind", wager(x, 0, 8, 11), 1);
        DUE.is("the very hour, twice", wager(x, 0, 1, 10, 10), 1);
        DUE.is("the last", wager(x, 0, 99, 1, 98, 9), 3);
        HatsOfTheWind first = Due.street("p001;h000;w094;");
        DUE.is("behind 1: 1 and 99", wager(first, 0, 99, 1), 1);
        HatsOfTheWind late = Due.street("p045;h000;w114;");
        DUE.is("behind 99: 1 and 99", wager(late, 0, 1, 99), 1);
        HatsOfTheWind never = Due.street("p045;h000;w124;");
        DUE.is("behind 100", wager(never, 0, 99), -4);
        x.row(0, 0, 100);
        for (int i = 0; i < 100; i++) {
            x.put(0, i, i == 99 ? 10 : 1);
        }
        DUE.is("a hundred who bet", x.wager(0, 0), 99);
    }

    private static void wagerHours() {
        DUE.sentence("wager: -13 (of none, no such hour)");
        HatsOfTheWind x = Due.street("p001;h000;w184;");
        for (int sort = 0; sort < 3; sort++) {
            DUE.is("of none", wager(x, sort), -13);
            DUE.is("1 and 99", wager(x, sort, 1, 99), 0);
            DUE.is("0", wager(x, sort, 10, 0), -13);
            DUE.is("0 ahead", wager(x, sort, 0, 10), -13);
            DUE.is("100", wager(x, sort, 10, 100), -13);
            DUE.is("-1", wager(x, sort, -1), -13);
            DUE.is("the least is not skipped", wager(x, sort, 10, LEAST[sort]), -13);
        }
        DUE.is("the most", wager(x, 2, Integer.MAX_VALUE), -13);
        DUE.sentence("wager: -3 it is not WORN");
        HatsOfTheWind loose = Due.street("p001;h000;w094;t01;");
        DUE.is("loose", wager(loose, 0, 10), -3);
        HatsOfTheWind lost = Due.street("p201;h000;w094;t01;");
        DUE.is("lost", wager(lost, 0, 10), -3);
    }

    private static int forged(HatsOfTheWind x, int sort, int... flight) {
        Due.layRow(x, 0, sort, flight);
        return x.forged(0, 0);
    }

    private static void forgedFirst() {
        DUE.sentence("the first only out of 0 .. 21");
        HatsOfTheWind x = Due.street("p051;h000;");
        for (int sort = 0; sort < 3; sort++) {
            DUE.is("of none", forged(x, sort), -4);
            for (int place = 0; place <= 21; place++) {
                DUE.is("from " + place, forged(x, sort, place), -4);
            }
            DUE.is("-1", forged(x, sort, -1), 0);
            DUE.is("22", forged(x, sort, 22), 0);
            DUE.is("the least is not skipped", forged(x, sort, LEAST[sort]), 0);
            DUE.is("nor behind", forged(x, sort, 5, LEAST[sort]), 1);
        }
        DUE.is("the most", forged(x, 2, Integer.MAX_VALUE, 5), 0);
        DUE.is("the most behind", forged(x, 2, 5, Integer.MAX_VALUE), 1);
    }

    private static void forgedLost() {
        DUE.sentence("above 20 it is LOST and told 21");
        HatsOfTheWind x = Due.street("p051;h000;w094;w104;");
        DUE.is("16 to 20, then 21", forged(x, 0, 16, 20, 21), -4);
        DUE.is("17 to 21", forged(x, 0, 17, 21, 21, 21), -4);
        DUE.is("20 to 21", forged(x, 0, 20, 21), -4);
        DUE.is("not to 24", forged(x, 0, 20, 24), 1);
        DUE.is("not back", forged(x, 0, 20, 21, 20), 2);
        DUE.is("21 is lost already", forged(x, 0, 21, 21), -4);
        DUE.is("and does not fly", forged(x, 0, 21, 25), 1);
    }

    private static void forgedHourByHour() {
        DUE.sentence("hour by hour from HOUR on: the first that can not be behind the one ahead");
        HatsOfTheWind x = Due.street("p051;h000;t14;w231;w002;w013;");
        DUE.is("23, 0, 1, 2", forged(x, 0, 0, 1, 3, 6, 6), -4);
        DUE.is("the first of two", forged(x, 0, 0, 1, 2, 2), 2);
        DUE.is("the last", forged(x, 0, 0, 1, 3, 6, 7), 4);
        x.shelters(1);
        DUE.is("in the lee it lies", forged(x, 0, 0, 1, 1, 1), -4);
        DUE.is("a hundred", hundredAtRest(x), -4);
        x.put(0, 99, 2);
        DUE.is("the hundredth", x.forged(0, 0), 99);
        // It is no matter that it is worn, or where it is.
        HatsOfTheWind held = Due.street("p051;h190;w094;");
        DUE.is("as if it were loose", forged(held, 0, 0, 4), -4);
        // From 9 on, 24 hours on the wind of 9 again.
        held.row(0, 0, 26);
        for (int i = 0; i < 26; i++) {
            held.put(0, i, i == 0 ? 0 : i < 25 ? 4 : 8);
        }
        DUE.is("the next day", held.forged(0, 0), -4);
    }

    private static int hundredAtRest(HatsOfTheWind x) {
        x.row(0, 0, 100);
        for (int i = 0; i < 100; i++) {
            x.put(0, i, 1);
        }
        return x.forged(0, 0);
    }

    private static int judge(HatsOfTheWind x, int sort, int... heads) {
        Due.layRow(x, 0, sort, heads);
        return x.judge(0);
    }

    private static void judged() {
        DUE.sentence("JUDGED: .. the first that is not so (skipped likewise); -4");
        HatsOfTheWind x = Due.street("p041;h000;p201;w094;");
        for (int sort = 0; sort < 3; sort++) {
            int least = LEAST[sort];
            DUE.is("of none", judge(x, sort), -4);
            DUE.is("so", judge(x, sort, 1, 2), -4);
            DUE.is("not now", judge(x, sort, 2, 2), 0);
            DUE.is("not behind 1", judge(x, sort, 1, 1), 1);
            DUE.is("the first of two", judge(x, sort, 0, 0), 0);
            DUE.is("skipped", judge(x, sort, least, 1), 1);
            DUE.is("all skipped", judge(x, sort, least, least, least), -4);
            DUE.is("one above the least is not", judge(x, sort, least + 1), 0);
            DUE.is("the least of bytes elsewhere", judge(x, sort, -128), sort == 0 ? -4 : 0);
        }
        DUE.is("how many, not bits", judge(Due.street("p001;h000;p001;p001;"), 0, 2), -4);
    }

    private static void thursdaysByNumber() {
        DUE.sentence("THURSDAYS with a seed z: n (1 .. 20)");
        HatsOfTheWind x = Due.street("p201;h600;");
        for (int n = 1; n <= 20; n++) {
            DUE.is(n + " of them, each with a wind above 0", x.thursdays(n, 1, 0), n);
        }
        int[] out = {Integer.MIN_VALUE, -1, 0, 21, Integer.MAX_VALUE};
        for (int n : out) {
            DUE.is("n " + n, x.thursdays(n, 1, 0), -1);
        }
        for (int far : FAR_OUT) {
            DUE.is("what " + far, x.thursdays(1, 1, far), -1);
        }
        DUE.is("what 2", x.thursdays(1, 1, 2), -1);
        int[] seeds = {Integer.MIN_VALUE, -1, 0, 1, Integer.MAX_VALUE};
        for (int z : seeds) {
            DUE.is("seed " + z, x.thursdays(20, z, 0), 20);
        }
        HatsOfTheWind none = new HatsOfTheWind();
        DUE.is("no hats", none.thursdays(20, 1, 0), 0);
        DUE.is("nobody", none.thursdays(20, 1, 1), 0);
    }

    private static void thursdaysTogether() {
        DUE.sentence("each from now: .. HATS LOST more of all; who is BARE then, together");
        HatsOfTheWind x = Due.street("p201;h600;p201;h601;p201;h192;i29;");
        DUE.is("two on each", x.thursdays(3, 1, 0), 6);
        DUE.is("0 and 1, not 2", x.thursdays(3, 1, 1), 3);
        DUE.is("they wear them still", x.count(4), 0);
        HatsOfTheWind lost = Due.street("p201;h600;p001;w095;t01;");
        DUE.is("lost ahead: not more", lost.thursdays(20, 1, 0), 0);
        DUE.is("bare now and then", lost.thursdays(20, 1, 1), 3);
        DUE.is("the winds are as they were", lost.wind(9), 5);
        DUE.is("the hour is as it was", lost.count(2), 10);
    }

    /** The winds of three Thursdays, one behind the other, as the document draws them, told by long arithmetic. */
    private static int[] drawn(int z) {
        int[] winds = new int[72];
        long seed = z;
        for (int k = 0; k < 72; k++) {
            seed = (int) (seed * 1103515245L + 12345L);
            winds[k] = (int) ((seed & 0x7fffffffL) / 65536 % 10);
        }
        return winds;
    }

    private static void draws() {
        DUE.sentence("a DRAW below n: z becomes .. (an int); (z without its sign's bit over 65536, cut) modulo n");
        int[] seeds = {0, 1, -1, 2, 12345, -12345, 65536, 1 << 30, Integer.MAX_VALUE, Integer.MIN_VALUE};
        for (int z : seeds) {
            int[] winds = drawn(z);
            // By its pins the NEST at 20 is lost just if some hour has more wind than that.
            int most = 0;
            for (int hour = 0; hour < 24; hour++) {
                most = Math.max(most, winds[hour]);
            }
            HatsOfTheWind x = Due.street("p201;h600;");
            for (int pins = 0; pins < 10; pins++) {
                x.pins(0, pins);
                DUE.is("seed " + z + ", pins " + pins, x.thursdays(1, z, 0), most > pins ? 1 : 0);
            }
            sameAsTold(z, winds);
        }
    }

    /** Thursdays are, each from now, as if their winds had been told and 24 hours gone by. */
    private static void sameAsTold(int z, int[] winds) {
        String[] streets = {
            "p001;h000;p052;h111;p103;h252;p154;h363;", "p005;h430;p064;h541;p123;h752;p181;h663;",
            "p001;h720;p003;h761;p101;", "t14;p001;h150;p045;h171;l09;l13;", "p084;h000;l01;l12;", "p035;h500;l11;",
            "p042;h340;l18;", "p121;h000;l20;", "p201;h780;", "p045;h400;p135;p195;l11;l06;", "p065;h050;l15;w103;",
            "p064;h700;p052;l18;"
        };
        for (String text : streets) {
            HatsOfTheWind thursdays = Due.street(text);
            int lost = 0;
            int bare = 0;
            for (int n = 1; n <= 3; n++) {
                HatsOfTheWind told = Due.street(text);
                for (int hour = 0; hour < 24; hour++) {
                    told.blows(hour, winds[24 * (n - 1) + hour]);
                }
                lost += told.then(24, 1);
                bare |= told.then(24, 0);
                DUE.is("LOST, seed " + z + ", " + n + " Thursdays, " + text, thursdays.thursdays(n, z, 0), lost);
                DUE.is("BARE, seed " + z + ", " + n + " Thursdays, " + text, thursdays.thursdays(n, z, 1), bare);
            }
        }
    }
}
