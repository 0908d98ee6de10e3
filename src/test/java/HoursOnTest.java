/** Promises 13 to 20: hours on, in mind. */
public final class HoursOnTest {
    private static final Due DUE = new Due("HoursOnTest");

    public static void main(String[] args) {
        hatAndPersonThen();
        then();
        taken();
        caughtAndBack();
        lost();
        allWear();
        behindNinetyNine();
        nothingChanges();
        DUE.end();
    }

    /** At 9 wind 5 takes it from 2 to 7, at 10 wind 1 moves it to 8; he runs by 2: 4, 6, 8. */
    private static HatsOfTheWind flight() {
        return Due.street("p022;h000;w095;w101;");
    }

    private static void hatAndPersonThen() {
        HatsOfTheWind x = flight();
        int[] places = {2, 7, 8, 8, 8};
        int[] wearers = {0, 9, 9, 0, 0};
        int[] his = {2, 4, 6, 8, 8};
        for (int n = 0; n < 5; n++) {
            DUE.is("hatThen(0, " + n + ", 0)", x.hatThen(0, n, 0), places[n]);
            DUE.is("hatThen(0, " + n + ", 1)", x.hatThen(0, n, 1), wearers[n]);
            DUE.is("personThen(0, " + n + ")", x.personThen(0, n), his[n]);
        }
        // The wind of 9 comes again behind 24 hours: from 8 to 13.
        DUE.is("next day", x.hatThen(0, 25, 0), 13);
        DUE.is("99 hours", x.hatThen(0, 99, 1), 9);
        DUE.is("99 hours: LOST on the third day", x.hatThen(0, 99, 0), 21);
        DUE.is("hat 1", x.hatThen(1, 0, 0), -1);
        DUE.is("hat -1", x.hatThen(-1, 0, 0), -1);
        DUE.is("n 100", x.hatThen(0, 100, 0), -1);
        DUE.is("n -1", x.hatThen(0, -1, 0), -1);
        DUE.is("what 2", x.hatThen(0, 0, 2), -1);
        DUE.is("what -1", x.hatThen(0, 0, -1), -1);
        DUE.is("person 1", x.personThen(1, 0), -1);
        DUE.is("person -1", x.personThen(-1, 0), -1);
        DUE.is("n 100", x.personThen(0, 100), -1);
        DUE.is("n -1", x.personThen(0, -1), -1);
    }

    private static void then() {
        HatsOfTheWind x = Due.street("p022;h000;p201;h551;p031;w095;w101;");
        DUE.is("BARE now", x.then(0, 0), 4);
        DUE.is("BARE behind 1", x.then(1, 0), 7);
        // 2 runs from 3 by 1 and 0 by 2: 0 has the hat behind 3 hours.
        DUE.is("BARE behind 3", x.then(3, 0), 6);
        DUE.is("LOST now", x.then(0, 1), 0);
        DUE.is("LOST behind 1", x.then(1, 1), 1);
        DUE.is("WORTH now", x.then(0, 2), 2 + 5 + 5 + 9);
        DUE.is("WORTH behind 1", x.then(1, 2), 2);
        DUE.is("n 99", x.then(99, 1), 2);
        DUE.is("n 100", x.then(100, 0), -1);
        DUE.is("n -1", x.then(-1, 0), -1);
        DUE.is("what 3", x.then(0, 3), -1);
        DUE.is("what -1", x.then(0, -1), -1);
    }

    private static void taken() {
        HatsOfTheWind x = Due.street("p001;h000;p001;w124;");
        DUE.is("at 12", x.taken(0), 4);
        x.pins(0, 1);
        DUE.is("never", x.taken(0), -4);
        DUE.is("no such", x.taken(1), -1);
        DUE.is("no such", x.taken(-1), -1);
        // What he has again when the hour ends is not taken.
        HatsOfTheWind again = Due.street("p005;h000;w094;");
        DUE.is("caught in the same hour, five times up to 20", again.taken(0), -4);
        again.moves(0, 5);
        DUE.is("three times up to 17, then past 20", again.taken(0), 73);
        // Another one is there first.
        HatsOfTheWind other = Due.street("p091;p055;h001;w094;");
        DUE.is("worn by another one", other.taken(0), 1);
        DUE.is("by him", other.hatThen(0, 1, 1), 0);
        HatsOfTheWind loose = Due.street("p001;h000;w095;t01;");
        DUE.is("loose", loose.taken(0), -3);
        HatsOfTheWind lost = Due.street("p201;h000;w095;t01;");
        DUE.is("lost", lost.taken(0), -3);
        // At 8 of the next day: behind 24 hours.
        HatsOfTheWind late = Due.street("p001;h000;w084;");
        DUE.is("the hour ahead comes last", late.taken(0), 24);
    }

    private static void caughtAndBack() {
        HatsOfTheWind x = Due.street("p101;h000;p041;p201;w095;t01;");
        // Hat 0 lies at 15; 0 ran to 11, 1 to 5, 2 to 19: by 1 an hour 0 and 2 are there behind 4 hours, 0 first.
        DUE.is("caught 0", x.caught(0), 4);
        DUE.is("caught 1: never", x.caught(1), -4);
        // 2 stood still at 16; on the next day it flies on to 20, where he is behind 27.
        DUE.is("caught 2: on the next day", x.caught(2), 27);
        DUE.is("back 0", x.back(0, 0), 4);
        DUE.is("back 1", x.back(1, 0), -4);
        DUE.is("no such one", x.caught(3), -1);
        DUE.is("no such one", x.caught(-1), -1);
        DUE.is("no such one", x.back(3, 0), -1);
        DUE.is("no such one", x.back(-1, 0), -1);
        DUE.is("no such hat", x.back(0, 1), -1);
        DUE.is("no such hat", x.back(0, -1), -1);
        HatsOfTheWind worn = Due.street("p001;h000;p031;h101;");
        DUE.is("wears one", worn.caught(1), 0);
        DUE.is("wears it", worn.back(1, 1), 0);
        DUE.is("not his", worn.back(1, 0), -4);
        // It is taken behind 24 hours and flies to where the other one stands.
        HatsOfTheWind next = Due.street("p001;h000;p041;w084;");
        DUE.is("the other one's", next.back(1, 0), 24);
    }

    private static void lost() {
        HatsOfTheWind x = Due.street("p181;h000;p001;h001;p201;h002;w095;t01;w115;");
        DUE.is("lost already", x.lost(2), 0);
        DUE.is("lost already", x.lost(0), 0);
        // To 10, caught there by 0; to 15 a day on, caught by 2; to 20, caught by 2; past it at 9 of the day behind.
        DUE.is("lost later", x.lost(1), 48);
        HatsOfTheWind y = Due.street("p201;h000;w124;");
        DUE.is("at 12", y.lost(0), 4);
        HatsOfTheWind z = Due.street("p001;h000;");
        DUE.is("never", z.lost(0), -4);
        DUE.is("no such", z.lost(1), -1);
        DUE.is("no such", z.lost(-1), -1);
        // 4 places a day, he follows by 1 an hour: from 0 past 20 on the sixth day, beyond 99 hours.
        HatsOfTheWind far = Due.street("p001;h000;w094;");
        DUE.is("beyond 99 hours", far.lost(0), -4);
        // 7 places a day: 7, 14, 21 behind 49.
        HatsOfTheWind third = Due.street("p001;h000;w097;");
        DUE.is("on the third day", third.lost(0), 49);
    }

    private static void allWear() {
        HatsOfTheWind x = flight();
        DUE.is("none", x.allWear(0), 0);
        DUE.is("behind 1 and 2 he is bare", x.allWear(2), 0);
        DUE.is("then he wears it", x.allWear(10), 8);
        // Behind 25 and 26 hours he is bare again: 6 places by 2.
        DUE.is("the next day", x.allWear(30), 30 - 2 - 2);
        DUE.is("n 100", x.allWear(100), -1);
        DUE.is("n -1", x.allWear(-1), -1);
        HatsOfTheWind nobody = new HatsOfTheWind();
        DUE.is("nobody is bare", nobody.allWear(99), 99);
    }

    /** Behind 99 hours is the last that counts: the winds of 11 blow behind 3, 27, .. 99, those of 12 behind 100. */
    private static void behindNinetyNine() {
        HatsOfTheWind x = Due.street("p045;h000;w114;");
        DUE.is("taken behind 99", x.taken(0), 99);
        DUE.is("lost behind 99", x.lost(0), 99);
        HatsOfTheWind y = Due.street("p045;h000;w124;");
        DUE.is("taken behind 100", y.taken(0), -4);
        DUE.is("lost behind 100", y.lost(0), -4);
        // The CAP goes 1 a day and so do they, towards one another.
        HatsOfTheWind z = Due.street("p101;p001;h701;w113;");
        DUE.is("caught behind 99", z.caught(0), 99);
        DUE.is("back behind 99", z.back(0, 0), 99);
        DUE.is("first behind 99", z.race(), 0);
        HatsOfTheWind w = Due.street("p101;p001;h701;w123;");
        DUE.is("caught behind 100", w.caught(0), -4);
        DUE.is("back behind 100", w.back(0, 0), -4);
        DUE.is("first behind 100", w.race(), -4);
    }

    private static void nothingChanges() {
        HatsOfTheWind x = flight();
        x.hatThen(0, 5, 0);
        x.personThen(0, 5);
        x.then(5, 0);
        x.taken(0);
        x.caught(0);
        x.back(0, 0);
        x.lost(0);
        x.allWear(5);
        DUE.is("hour", x.count(2), 9);
        DUE.is("hat", x.hat(0, 3), 2);
        DUE.is("worn", x.hat(0, 2), 0);
        DUE.is("person", x.person(0, 0), 2);
    }
}
