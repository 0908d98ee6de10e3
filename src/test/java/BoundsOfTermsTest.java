/** The boundary cases of section I and of promises 1 and 3 to 12, a sentence at a time: ranges, kinds, an hour. */
public final class BoundsOfTermsTest {
    private static final Due DUE = new Due("BoundsOfTermsTest");
    private static final int[] FAR_OUT = {Integer.MIN_VALUE, -1000, -1, 1000, Integer.MAX_VALUE};

    public static void main(String[] args) {
        places();
        lee();
        windsOfHours();
        peopleAtMost();
        paceAndPins();
        hatsAtMost();
        figuresAndKinds();
        oneHatAtMost();
        past20();
        hourAndDay();
        holdsCut();
        fliesWithoutWind();
        fliesCut();
        worthOfEach();
        takenAboveHolds();
        fliesFromNowOnToo();
        towardsTheNearest();
        noFarther();
        theLeastSuch();
        behind23();
        DUE.end();
    }

    private static void places() {
        DUE.sentence("PLACES 0 .. 20 along a street");
        HatsOfTheWind x = new HatsOfTheWind();
        DUE.is("comes(0, 1)", x.comes(0, 1), 0);
        DUE.is("comes(20, 1)", x.comes(20, 1), 1);
        DUE.is("comes(21, 1)", x.comes(21, 1), -1);
        DUE.is("moves(0, 20)", x.moves(0, 20), 0);
        DUE.is("moves(0, 0)", x.moves(0, 0), 20);
        DUE.is("moves(0, 21)", x.moves(0, 21), -1);
        DUE.is("shelters(0)", x.shelters(0), 1);
        DUE.is("shelters(20)", x.shelters(20), 1);
        DUE.is("shelters(21)", x.shelters(21), -1);
        for (int place : FAR_OUT) {
            DUE.is("comes far out", x.comes(place, 1), -1);
            DUE.is("moves far out", x.moves(0, place), -1);
            DUE.is("shelters far out", x.shelters(place), -1);
        }
        DUE.is("people", x.count(0), 2);
        DUE.is("he is where he was", x.person(0, 0), 0);
        DUE.is("lee places", x.count(6), 1 + (1 << 20));
    }

    private static void lee() {
        DUE.sentence("LEE or not, each (not at first): in the LEE there is no wind");
        for (int place = 0; place <= 20; place++) {
            HatsOfTheWind x = new HatsOfTheWind();
            x.comes(place, 1);
            x.keep(0, 1, 6, 0);
            x.wears(0, 0);
            x.blows(9, 9);
            DUE.is("no lee at " + place, x.then(1, 0), 1);
            DUE.is("lee at " + place, x.shelters(place), 1);
            DUE.is("even a NEST stays", x.then(1, 0), 0);
            DUE.is("the bit of " + place, x.count(6), 1 << place);
            DUE.is("not any more", x.shelters(place), 0);
            DUE.is("the wind is there again", x.then(1, 0), 1);
        }
    }

    private static void windsOfHours() {
        DUE.sentence("WIND of each HOUR 0 .. 23 (0 .. 9; 0 at first)");
        HatsOfTheWind x = new HatsOfTheWind();
        for (int hour = 0; hour < 24; hour++) {
            DUE.is("at first", x.wind(hour), 0);
            DUE.is("blows 9", x.blows(hour, 9), 0);
            DUE.is("blows 10", x.blows(hour, 10), -1);
            DUE.is("blows -1", x.blows(hour, -1), -1);
            DUE.is("wind", x.wind(hour), 9);
        }
        DUE.is("blows 0", x.blows(23, 0), 9);
        DUE.is("hour 24", x.blows(24, 0), -1);
        DUE.is("hour 24", x.wind(24), -1);
        for (int far : FAR_OUT) {
            DUE.is("hour far out", x.blows(far, 0), -1);
            DUE.is("hour far out", x.wind(far), -1);
            DUE.is("wind far out", x.blows(0, far), -1);
        }
        DUE.is("wind of 0 is as it was", x.wind(0), 9);
    }

    private static void peopleAtMost() {
        DUE.sentence("PEOPLE 0 .. 5 as they come (6 at most)");
        HatsOfTheWind x = new HatsOfTheWind();
        DUE.is("nobody: person 0", x.person(0, 0), -1);
        DUE.is("nobody: moves", x.moves(0, 0), -1);
        DUE.is("nobody: pins", x.pins(0, 0), -1);
        for (int person = 0; person < 6; person++) {
            DUE.is("the number", x.comes(person, 1), person);
            DUE.is("the one behind is not there", x.person(person + 1, 0), -1);
        }
        DUE.is("a seventh", x.comes(6, 1), -2);
        DUE.is("count", x.count(0), 6);
        DUE.is("person 5", x.person(5, 0), 5);
        DUE.is("person 6", x.person(6, 0), -1);
        DUE.is("moves 6", x.moves(6, 0), -1);
        DUE.is("pins 6", x.pins(6, 0), -1);
        for (int far : FAR_OUT) {
            DUE.is("person far out", x.person(far, 0), -1);
            DUE.is("what far out", x.person(0, far), -1);
            DUE.is("moves far out", x.moves(far, 0), -1);
            DUE.is("pins far out", x.pins(far, 0), -1);
        }
        DUE.is("all are bare", x.count(4), 63);
    }

    private static void paceAndPins() {
        DUE.sentence("AT a PLACE, PACE (1 .. 5), PINS (0 .. 9; 0 at first)");
        HatsOfTheWind x = new HatsOfTheWind();
        DUE.is("pace 0", x.comes(0, 0), -1);
        DUE.is("pace 6", x.comes(0, 6), -1);
        for (int far : FAR_OUT) {
            DUE.is("pace far out", x.comes(0, far), -1);
        }
        DUE.is("nobody came", x.count(0), 0);
        for (int pace = 1; pace <= 5; pace++) {
            DUE.is("pace " + pace, x.comes(0, pace), pace - 1);
            DUE.is("pace told", x.person(pace - 1, 1), pace);
            DUE.is("no pins at first", x.person(pace - 1, 2), 0);
        }
        DUE.is("9 pins", x.pins(4, 9), 0);
        DUE.is("10 pins", x.pins(4, 10), -1);
        for (int far : FAR_OUT) {
            DUE.is("pins far out", x.pins(4, far), -1);
        }
        DUE.is("still 9", x.pins(4, 0), 9);
        DUE.is("none", x.person(4, 2), 0);
    }

    private static void hatsAtMost() {
        DUE.sentence("HATS 0 .. 7 as they come (8 at most)");
        HatsOfTheWind x = Due.street("p201;w099;");
        x.keep(0, 1, 3, 0);
        for (int hat = 0; hat < 8; hat++) {
            DUE.is("not there yet", x.hat(hat, 0), -1);
            DUE.is("the number", x.wears(0, 0), hat);
            x.hours(24);
        }
        DUE.is("a ninth", x.wears(0, 0), -2);
        DUE.is("count", x.count(1), 8);
        DUE.is("hat 7", x.hat(7, 0), 3);
        DUE.is("hat 8", x.hat(8, 0), -1);
        for (int far : FAR_OUT) {
            DUE.is("hat far out", x.hat(far, 0), -1);
            DUE.is("what far out", x.hat(7, far), -1);
        }
        DUE.is("all are lost", x.count(5), 255);
    }

    private static void figuresAndKinds() {
        DUE.sentence("of KINDS, each with a FIGURE (0 .. 9)");
        HatsOfTheWind x = Due.street("p001;p001;");
        DUE.is("kind 7, figure 9", x.keep(0, 1, 7, 9), 0);
        DUE.is("worn", x.wears(0, 0), 0);
        DUE.is("kind", x.hat(0, 0), 7);
        DUE.is("figure", x.hat(0, 1), 9);
        DUE.is("kind 0, figure 0", x.keep(0, 1, 0, 0), 0);
        DUE.is("worn", x.wears(0, 1), 1);
        DUE.is("kind", x.hat(1, 0), 0);
        DUE.is("figure", x.hat(1, 1), 0);
        DUE.is("kind 8", x.keep(0, 1, 8, 0), -1);
        DUE.is("figure 10", x.keep(0, 1, 0, 10), -1);
        for (int far : FAR_OUT) {
            DUE.is("kind far out", x.keep(0, 1, far, 0), -1);
            DUE.is("figure far out", x.keep(0, 1, 0, far), -1);
        }
    }

    private static void oneHatAtMost() {
        DUE.sentence("WORN by one of PEOPLE (each wears one at most)");
        HatsOfTheWind x = Due.street("p051;h000;p051;h001;w094;t01;p095;p095;p095;");
        DUE.is("two lie at 9, three stand there", x.hours(1), 3);
        DUE.is("the first of them has one", x.person(2, 3), 0);
        DUE.is("the next has the other", x.person(3, 3), 1);
        DUE.is("the last has none", x.person(4, 3), 9);
        x.keep(0, 1, 0, 0);
        DUE.is("one who wears one", x.wears(0, 2), -3);
        DUE.is("one who is bare", x.wears(0, 4), 2);
        DUE.is("not twice", x.wears(0, 4), -3);
        DUE.is("hats", x.count(1), 3);
        HatsOfTheWind y = Due.street("p051;h000;w094;t01;p091;h001;");
        y.hours(1);
        DUE.is("he stands at a loose one and wears one", y.person(1, 3), 1);
        DUE.is("it lies there still", y.hat(0, 2), 9);
    }

    private static void past20() {
        DUE.sentence("past 20 it is LOST");
        HatsOfTheWind x = Due.street("p161;h000;p171;h001;w094;");
        x.hours(1);
        DUE.is("16 and 4 is 20", x.hat(0, 3), 20);
        DUE.is("17 and 4 is past it", x.hat(1, 3), 21);
        DUE.is("the lost one alone", x.count(5), 2);
        DUE.is("nobody wears it", x.hat(1, 2), 9);
        DUE.is("17 runs after hat 0", x.person(1, 0), 18);
        HatsOfTheWind y = Due.street("p205;h000;p195;w099;t01;");
        DUE.is("lost", y.hat(0, 3), 21);
        DUE.is("nobody runs after a lost one", y.person(1, 0), 19);
        y.hours(60);
        DUE.is("nobody has it ever", y.count(4), 3);
        DUE.is("it stays lost", y.hat(0, 3), 21);
        DUE.is("it is still what it was", y.hat(0, 5), 2);
    }

    private static void hourAndDay() {
        DUE.sentence("HOUR (0 .. 23; 9 at first), DAY (0 .. 999; 0 at first)");
        HatsOfTheWind x = new HatsOfTheWind();
        DUE.is("hour at first", x.count(2), 9);
        DUE.is("day at first", x.count(3), 0);
        for (int k = 0; k < 399; k++) {
            x.hours(60);
        }
        DUE.is("to 999, 23", x.hours(50), 0);
        DUE.is("day", x.count(3), 999);
        DUE.is("hour", x.count(2), 23);
        DUE.is("no hour more", x.hours(1), -3);
        DUE.is("nor 60", x.hours(60), -3);
        DUE.is("day", x.count(3), 999);
        DUE.is("hour", x.count(2), 23);
        DUE.is("image: DAY", x.image(), 999);
        DUE.is("restored: DAY", x.restore(), 999);
        DUE.is("behind it, in mind", x.allWear(99), 99);
    }

    private static void holdsOf(int kind, int figure, int want) {
        HatsOfTheWind x = Due.street("p001;h" + kind + figure + "0;");
        DUE.is("HOLDS, kind " + kind + " figure " + figure, x.hat(0, 4), want);
    }

    private static void holdsCut() {
        DUE.sentence("BOWLER FIGURE by 2, cut, more than a HAT; \"a by b, cut\" is a divided by b, toward 0");
        int[] halves = {0, 0, 1, 1, 2, 2, 3, 3, 4, 4};
        for (int figure = 0; figure < 10; figure++) {
            holdsOf(2, figure, 3 + halves[figure]);
            holdsOf(5, figure, 1 + halves[figure]);
        }
        DUE.sentence("PINNED FIGURE more; AUNTS 2 more than a PINNED one; CAP FIGURE");
        for (int figure = 0; figure < 10; figure++) {
            holdsOf(1, figure, 3 + figure);
            holdsOf(4, figure, 5 + figure);
            holdsOf(7, figure, figure);
        }
        DUE.sentence("HAT 3; STRAW 1 less than a HAT; NEST 0");
        for (int figure = 0; figure < 10; figure++) {
            holdsOf(0, figure, 3);
            holdsOf(3, figure, 2);
            holdsOf(6, figure, 0);
        }
    }

    /** How far one of the kind flies by v, from 0, where it lies loose. */
    private static void fliesOf(int kind, int figure, int v, int want) {
        HatsOfTheWind x = Due.street("p001;h" + kind + figure + "0;w09" + v + ";");
        Due.layRow(x, 0, 0, 0, want);
        DUE.is("FLIES, kind " + kind + " figure " + figure + " wind " + v, x.forged(0, 0), -4);
        Due.layRow(x, 0, 0, 0, want + 1);
        DUE.is("not farther, kind " + kind + " figure " + figure + " wind " + v, x.forged(0, 0), 1);
    }

    private static void fliesWithoutWind() {
        DUE.sentence("BOWLER 1 more, if v is above 0; TOPPER FIGURE by 3, cut, more than a BOWLER, if v is above 0");
        for (int figure = 0; figure < 10; figure++) {
            fliesOf(2, figure, 0, 0);
            fliesOf(2, figure, 1, 2);
            fliesOf(5, figure, 0, 0);
            fliesOf(5, figure, 1, 2 + figure / 3);
        }
        DUE.sentence("NEST 1 less than a STRAW (0 at least)");
        fliesOf(6, 9, 0, 0);
        fliesOf(6, 9, 1, 1);
        fliesOf(6, 0, 9, 17);
        DUE.sentence("HAT v; STRAW twice v; others as what they are under");
        fliesOf(0, 9, 0, 0);
        fliesOf(0, 9, 9, 9);
        fliesOf(1, 9, 0, 0);
        fliesOf(1, 9, 9, 9);
        fliesOf(3, 9, 0, 0);
        fliesOf(3, 9, 9, 18);
    }

    private static void fliesCut() {
        DUE.sentence("AUNTS half of a PINNED one's, cut");
        int[] halves = {0, 0, 1, 1, 2, 2, 3, 3, 4, 4};
        for (int v = 0; v < 10; v++) {
            fliesOf(4, 9, v, halves[v]);
        }
        DUE.sentence("CAP v by 3, cut");
        int[] thirds = {0, 0, 0, 1, 1, 1, 2, 2, 2, 3};
        for (int v = 0; v < 10; v++) {
            fliesOf(7, 9, v, thirds[v]);
        }
        DUE.sentence("TOPPER FIGURE by 3, cut, more");
        for (int figure = 0; figure < 10; figure++) {
            fliesOf(5, figure, 9, 10 + thirds[figure]);
        }
    }

    private static void worthOfEach() {
        DUE.sentence("WORTH: HAT 2; PINNED 1 more; .. CAP as a HAT");
        int[] least = {2, 3, 5, 1, 6, 14, 0, 2};
        int[] most = {2, 3, 14, 1, 6, 23, 9, 2};
        for (int kind = 0; kind < 8; kind++) {
            DUE.is("FIGURE 0 of " + kind, Due.street("p001;h" + kind + "00;").hat(0, 5), least[kind]);
            DUE.is("FIGURE 9 of " + kind, Due.street("p001;h" + kind + "90;").hat(0, 5), most[kind]);
        }
    }

    private static void takenAboveHolds() {
        DUE.sentence("LOOSE where its wearer is, if the wind there is above what it HOLDS and his PINS together");
        DUE.is("wind 3, holds 3", Due.street("p001;h000;w093;").hours(1), 0);
        DUE.is("wind 4, holds 3", Due.street("p001;h000;w094;").hours(1), 1);
        DUE.is("wind 4, holds 3, 1 pin", Due.street("p001;h000;i01;w094;").hours(1), 0);
        DUE.is("wind 5, holds 3, 1 pin", Due.street("p001;h000;i01;w095;").hours(1), 1);
        DUE.is("wind 0, holds 0", Due.street("p001;h600;").hours(1), 0);
        DUE.is("wind 9, holds 0, 9 pins", Due.street("p001;h600;i09;w099;").hours(1), 0);
        DUE.is("wind 9, holds 0, 8 pins", Due.street("p001;h600;i08;w099;").hours(1), 1);
        DUE.is("pins of another one do not help", Due.street("p001;h600;p001;h191;i19;w095;").hours(1), 1);
    }

    private static void fliesFromNowOnToo() {
        DUE.sentence("then each that is LOOSE (from now on, too) FLIES towards greater PLACES by the wind where it is");
        HatsOfTheWind x = Due.street("p001;h000;w094;");
        x.hours(1);
        DUE.is("in the hour in which it is taken", x.hat(0, 3), 4);
        HatsOfTheWind y = Due.street("p001;h000;w094;l04;w109;");
        y.hours(2);
        DUE.is("at 4 there is no wind", y.hat(0, 3), 4);
        HatsOfTheWind z = Due.street("p001;h000;w094;l01;l02;l03;l04;w109;");
        z.hours(1);
        DUE.is("the lee on its way does not stop it", z.hat(0, 3), 4);
        HatsOfTheWind w = Due.street("p001;h000;w094;t01;w101;t01;");
        DUE.is("a loose one flies by any wind", w.hat(0, 3), 5);
    }

    private static void towardsTheNearest() {
        DUE.sentence("he goes towards the PLACE of the nearest LOOSE one (of several the least number; none: he stays)");
        // Hat 0 lies at 12 and hat 1 at 8.
        HatsOfTheWind x = Due.street("p041;h300;p041;h001;w094;t01;");
        x.moves(0, 0);
        x.moves(1, 20);
        x.comes(10, 1);
        x.comes(9, 1);
        x.comes(11, 1);
        x.hours(1);
        DUE.is("as near: towards hat 0", x.person(2, 0), 11);
        DUE.is("nearer to 8", x.person(3, 0), 8);
        DUE.is("he has it", x.person(3, 3), 1);
        DUE.is("nearer to 12", x.person(4, 0), 12);
        DUE.is("he has it", x.person(4, 3), 0);
        HatsOfTheWind none = Due.street("p105;p003;h001;");
        DUE.is("none is loose", none.hours(60), 1);
        DUE.is("he stays", none.person(0, 0), 10);
        HatsOfTheWind gone = Due.street("p105;p003;h001;w094;t01;");
        DUE.is("the one ahead has it: the next stays", gone.person(1, 0), 3);
    }

    private static void noFarther() {
        DUE.sentence("by his PACE, no farther");
        for (int pace = 1; pace <= 5; pace++) {
            for (int way = 0; way <= 6; way++) {
                int due = Math.min(pace, way);
                HatsOfTheWind up = Due.street("p041;h000;w095;t01;w090;");
                up.comes(9 - way, pace);
                up.moves(0, 20);
                DUE.is("up " + way + " by " + pace, up.personThen(1, 1), 9 - way + due);
                DUE.is("there or not", up.caught(1) == 1 ? 1 : 0, due == way ? 1 : 0);
                up.moves(1, 9 + way);
                DUE.is("down " + way + " by " + pace, up.personThen(1, 1), 9 + way - due);
            }
        }
    }

    private static void theLeastSuch() {
        DUE.sentence("if he is where one is LOOSE then, he wears the least such");
        HatsOfTheWind x = Due.street("p041;h000;p041;h001;p041;h002;w094;t01;p031;h003;p085;");
        x.hours(1);
        DUE.is("of 0, 1 and 2 at 8", x.person(4, 3), 0);
        DUE.is("the others lie there", x.hat(1, 2), 9);
        HatsOfTheWind least = Due.street("p041;p041;h001;w094;t01;p085;");
        least.hours(1);
        DUE.is("the only one", least.person(2, 3), 0);
    }

    private static void behind23() {
        DUE.sentence("HOUR is 1 more (behind 23: 0, DAY 1 more)");
        HatsOfTheWind x = Due.street("t14;");
        DUE.is("23", x.count(2), 23);
        DUE.is("day 0", x.count(3), 0);
        x.hours(1);
        DUE.is("0", x.count(2), 0);
        DUE.is("day 1", x.count(3), 1);
        x.hours(24);
        DUE.is("0", x.count(2), 0);
        DUE.is("day 2", x.count(3), 2);
        x.hours(60);
        DUE.is("12", x.count(2), 12);
        DUE.is("day 4", x.count(3), 4);
        DUE.sentence("n hours (1 .. 60) go by: how many are BARE. -1");
        DUE.is("60", Due.street("p001;").hours(60), 1);
        DUE.is("1", Due.street("p001;").hours(1), 1);
        DUE.is("0", x.hours(0), -1);
        DUE.is("61", x.hours(61), -1);
        for (int far : FAR_OUT) {
            DUE.is("far out", x.hours(far), -1);
        }
        DUE.is("12", x.count(2), 12);
    }
}
