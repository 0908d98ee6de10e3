/** The boundary cases of hours on, of STAND to SWAPS and of promises 13 to 28, a sentence at a time. */
public final class BoundsOfHoursOnTest {
    private static final Due DUE = new Due("BoundsOfHoursOnTest");
    private static final int[] OUT_OF_99 = {Integer.MIN_VALUE, -100, -1, 100, 101, Integer.MAX_VALUE};
    private static final int[] FAR_OUT = {Integer.MIN_VALUE, -1, 8, 9, Integer.MAX_VALUE};

    public static void main(String[] args) {
        noHoursOn();
        ninetyNineHoursOn();
        hoursOutOfRange();
        dayNoMatter();
        nothingThere();
        lost21AndNobody9();
        noSuchOnes();
        taken1To99();
        takenByHim();
        caught0To99();
        back0To99();
        lost0To99();
        allWearOfNext();
        stand();
        wear();
        wearInPlaceOfHis();
        calmWrap();
        gale();
        fewestPins();
        shut();
        bestSale();
        race();
        swaps();
        DUE.end();
    }

    /** The wind of 11 blows behind 3, 27, 51, 75 and 99 hours: from 4 the HAT goes by 4, he runs after it at once. */
    private static HatsOfTheWind gone99() {
        return Due.street("p045;h000;w114;");
    }

    /** So do 0, from 10 downwards, and the CAP of 1, from 0 upwards, by 1: they meet behind 99 hours. */
    private static HatsOfTheWind met99() {
        return Due.street("p101;p001;h701;w113;");
    }

    private static void noHoursOn() {
        DUE.sentence("In mind, n hours on (0 .. 99): 0 is now");
        HatsOfTheWind x = Due.street("p053;h000;p201;w099;");
        DUE.is("hatThen where", x.hatThen(0, 0, 0), 5);
        DUE.is("hatThen by whom", x.hatThen(0, 0, 1), 0);
        DUE.is("personThen", x.personThen(0, 0), 5);
        DUE.is("then: bare", x.then(0, 0), 2);
        DUE.is("then: lost", x.then(0, 1), 0);
        DUE.is("then: worth", x.then(0, 2), 2);
        DUE.is("allWear", x.allWear(0), 0);
        DUE.is("stand: the least", x.stand(0, 0, 0), 0);
        DUE.is("stand: how many", x.stand(0, 0, 1), 0);
        DUE.is("wear: the least", x.wear(1, 0), 0);
        DUE.is("shut", x.shut(0), -4);
        DUE.is("bestSale", x.bestSale(0), 0);
        DUE.is("swaps", x.swaps(0), 0);
    }

    private static void ninetyNineHoursOn() {
        DUE.sentence("In mind, n hours on (0 .. 99): 99 is the last");
        HatsOfTheWind x = gone99();
        DUE.is("hatThen 98", x.hatThen(0, 98, 0), 20);
        DUE.is("hatThen 99", x.hatThen(0, 99, 0), 21);
        DUE.is("by whom 98", x.hatThen(0, 98, 1), 0);
        DUE.is("by whom 99", x.hatThen(0, 99, 1), 9);
        DUE.is("bare 98", x.then(98, 0), 0);
        DUE.is("bare 99", x.then(99, 0), 1);
        DUE.is("lost 98", x.then(98, 1), 0);
        DUE.is("lost 99", x.then(99, 1), 1);
        DUE.is("worth 98", x.then(98, 2), 2);
        DUE.is("worth 99", x.then(99, 2), 0);
        DUE.is("allWear 98", x.allWear(98), 98);
        DUE.is("allWear 99", x.allWear(99), 98);
        DUE.is("shut 98", x.shut(98), -4);
        DUE.is("shut 99", x.shut(99), 4);
        DUE.is("bestSale 98", x.bestSale(98), 0);
        DUE.is("bestSale 99", x.bestSale(99), -4);
        DUE.is("fewestPins 98", x.fewestPins(0, 98), 0);
        DUE.is("fewestPins 99", x.fewestPins(0, 99), 1);
        HatsOfTheWind y = Due.street("p005;h000;w114;");
        DUE.is("personThen 98", y.personThen(0, 98), 16);
        DUE.is("personThen 99", y.personThen(0, 99), 20);
        DUE.is("stand 99", y.stand(0, 99, 1), 99);
        DUE.is("stand 98", y.stand(0, 98, 1), 98);
        DUE.is("swaps 98", met99().swaps(98), 0);
        DUE.is("swaps 99", met99().swaps(99), 1);
        // The HAT would be lost behind 99 hours; the CAP would not.
        HatsOfTheWind z = Due.street("p045;h000;p205;h791;w114;");
        DUE.is("wear 98: as good", z.wear(0, 98), 0);
        DUE.is("wear 99: not the first", z.wear(0, 99), 1);
    }

    private static void hoursOutOfRange() {
        DUE.sentence("In mind, n hours on (0 .. 99): else -1");
        HatsOfTheWind x = gone99();
        for (int n : OUT_OF_99) {
            DUE.is("hatThen " + n, x.hatThen(0, n, 0), -1);
            DUE.is("personThen " + n, x.personThen(0, n), -1);
            DUE.is("then " + n, x.then(n, 0), -1);
            DUE.is("allWear " + n, x.allWear(n), -1);
            DUE.is("stand " + n, x.stand(0, n, 1), -1);
            DUE.is("wear " + n, x.wear(0, n), -1);
            DUE.is("fewestPins " + n, x.fewestPins(0, n), -1);
            DUE.is("shut " + n, x.shut(n), -1);
            DUE.is("bestSale " + n, x.bestSale(n), -1);
            DUE.is("swaps " + n, x.swaps(n), -1);
        }
        DUE.sentence("of one (0 .. 9) with which his hat is not TAKEN within n hours (1 .. 99)");
        DUE.is("fewestPins 0", x.fewestPins(0, 0), -1);
        DUE.is("fewestPins 1", x.fewestPins(0, 1), 0);
    }

    private static void dayNoMatter() {
        DUE.sentence("(DAY no matter)");
        HatsOfTheWind x = gone99();
        HatsOfTheWind y = new HatsOfTheWind();
        for (int k = 0; k < 399; k++) {
            y.hours(60);
        }
        y.hours(35);
        DUE.is("day", y.count(3), 999);
        DUE.is("8 o'clock", y.count(2), 8);
        Due.lay(y, 0, "p045;h000;w114;");
        y.street(0);
        DUE.is("hatThen", y.hatThen(0, 99, 0), x.hatThen(0, 98, 0));
        DUE.is("taken", y.taken(0), -4);
        DUE.is("an hour on", y.hours(1), 0);
        DUE.is("hatThen", y.hatThen(0, 99, 0), 21);
        DUE.is("taken", y.taken(0), 99);
        DUE.is("lost", y.lost(0), 99);
        DUE.is("allWear", y.allWear(99), 98);
        DUE.is("gusts", y.gusts(0, 7, 2, 1), x.gusts(0, 7, 2, 1));
        DUE.is("thursdays", y.thursdays(20, 1, 0), x.thursdays(20, 1, 0));
        DUE.is("day is as it was", y.count(3), 999);
        DUE.is("hour is as it was", y.count(2), 9);
    }

    private static void nothingThere() {
        DUE.sentence("Nobody, no HATS: what is told of none");
        HatsOfTheWind x = new HatsOfTheWind();
        DUE.is("hatThen", x.hatThen(0, 0, 0), -1);
        DUE.is("personThen", x.personThen(0, 0), -1);
        DUE.is("bare", x.then(99, 0), 0);
        DUE.is("lost", x.then(99, 1), 0);
        DUE.is("worth", x.then(99, 2), 0);
        DUE.is("taken", x.taken(0), -1);
        DUE.is("caught", x.caught(0), -1);
        DUE.is("back", x.back(0, 0), -1);
        DUE.is("lost", x.lost(0), -1);
        DUE.is("allWear", x.allWear(99), 99);
        DUE.is("stand", x.stand(0, 1, 0), -1);
        DUE.is("wear", x.wear(0, 1), -1);
        DUE.is("calm", x.calm(0), 0);
        DUE.is("fewestPins", x.fewestPins(0, 1), -1);
        DUE.is("shut", x.shut(99), -4);
        DUE.is("bestSale", x.bestSale(99), -4);
        DUE.is("race", x.race(), -4);
        DUE.is("swaps", x.swaps(99), 0);
    }

    private static void lost21AndNobody9() {
        DUE.sentence("where a HAT is (WORN: where its wearer is; LOST 21); by whom it is WORN (9 nobody)");
        HatsOfTheWind x = Due.street("p165;h000;p161;h191;w095;w101;");
        DUE.is("loose past 20: 21, not more", x.hatThen(0, 1, 0), 21);
        DUE.is("nobody", x.hatThen(0, 1, 1), 9);
        DUE.is("21 ever after", x.hatThen(0, 99, 0), 21);
        DUE.is("worn: where he is", x.hatThen(1, 99, 0), 16);
        DUE.is("by 1", x.hatThen(1, 99, 1), 1);
        HatsOfTheWind y = Due.street("p152;h000;w095;");
        DUE.is("20 is a place", y.hatThen(0, 1, 0), 20);
        DUE.is("loose there", y.hatThen(0, 1, 1), 9);
        DUE.is("worn there again", y.hatThen(0, 3, 1), 0);
        DUE.is("he is there", y.personThen(0, 3), 20);
    }

    private static void noSuchOnes() {
        DUE.sentence("-1 no such one, a number out of its range");
        HatsOfTheWind x = Due.street("p045;h000;");
        for (int far : FAR_OUT) {
            DUE.is("hatThen hat", x.hatThen(far, 1, 0), -1);
            DUE.is("hatThen what", x.hatThen(0, 1, far), -1);
            DUE.is("personThen", x.personThen(far, 1), -1);
            DUE.is("then what", x.then(1, far), -1);
            DUE.is("taken", x.taken(far), -1);
            DUE.is("caught", x.caught(far), -1);
            DUE.is("back person", x.back(far, 0), -1);
            DUE.is("back hat", x.back(0, far), -1);
            DUE.is("lost", x.lost(far), -1);
            DUE.is("stand person", x.stand(far, 1, 0), -1);
            DUE.is("stand what", x.stand(0, 1, far), -1);
            DUE.is("wear", x.wear(far, 1), -1);
            DUE.is("calm", x.calm(far), -1);
            DUE.is("fewestPins", x.fewestPins(far, 1), -1);
        }
        DUE.is("the next hat", x.hatThen(1, 1, 0), -1);
        DUE.is("the next one", x.personThen(1, 1), -1);
        DUE.is("hatThen what 2", x.hatThen(0, 1, 2), -1);
        DUE.is("then what 3", x.then(1, 3), -1);
        DUE.is("stand what 2", x.stand(0, 1, 2), -1);
        DUE.is("calm what 3", x.calm(3), -1);
        DUE.is("both", x.back(1, 1), -1);
    }

    private static void taken1To99() {
        DUE.sentence("TAKEN: behind how many hours (1 .. 99); -4");
        DUE.is("behind 1", Due.street("p001;h000;w094;").taken(0), 1);
        DUE.is("behind 24", Due.street("p001;h000;w084;").taken(0), 24);
        DUE.is("behind 99", gone99().taken(0), 99);
        DUE.is("behind 100", Due.street("p045;h000;w124;").taken(0), -4);
        DUE.is("never", Due.street("p045;h000;w123;").taken(0), -4);
        DUE.sentence("taken: -3 it is not WORN");
        HatsOfTheWind loose = Due.street("p041;h000;w094;t01;");
        DUE.is("loose", loose.taken(0), -3);
        loose.hours(4);
        DUE.is("worn again: behind 20 hours more", loose.taken(0), 20);
        DUE.is("lost", Due.street("p201;h000;w094;t01;").taken(0), -3);
    }

    private static void takenByHim() {
        DUE.sentence("a HAT that is WORN is first not so by him");
        // 0 takes it in the very hour: it is worn, but not by him.
        HatsOfTheWind x = Due.street("p081;p041;h001;w094;");
        DUE.is("by another one", x.taken(0), 1);
        DUE.is("worn", x.hatThen(0, 1, 1), 0);
        // He has it again within the hour: at its end it is worn by him.
        HatsOfTheWind y = Due.street("p044;h000;p201;h191;w094;");
        DUE.is("again his", y.hatThen(0, 1, 1), 0);
        DUE.is("flown", y.hatThen(0, 1, 0), 8);
        DUE.is("from 20 behind 97 hours it is lost", y.taken(0), 97);
    }

    private static void caught0To99() {
        DUE.sentence("CAUGHT: behind how many hours (0 .. 99) one wears a hat first; -4");
        DUE.is("he wears one: 0", gone99().caught(0), 0);
        HatsOfTheWind near = Due.street("p041;h000;w095;t01;w090;p091;p151;");
        DUE.is("he stands there: 1", near.caught(1), 1);
        DUE.is("it is gone then", near.caught(2), -4);
        DUE.is("behind 99", met99().caught(0), 99);
        DUE.is("behind 100", Due.street("p101;p001;h701;w123;").caught(0), -4);
        DUE.is("no hat is there", Due.street("p101;").caught(0), -4);
    }

    private static void back0To99() {
        DUE.sentence("BACK: behind how many (0 .. 99) one wears a told HAT first; -4");
        DUE.is("he wears it: 0", gone99().back(0, 0), 0);
        DUE.is("behind 99", met99().back(0, 0), 99);
        DUE.is("behind 100", Due.street("p101;p001;h701;w123;").back(0, 0), -4);
        HatsOfTheWind other = Due.street("p001;h000;p051;h101;");
        DUE.is("he wears another one", other.back(0, 1), -4);
        DUE.is("lost", Due.street("p201;h000;w094;t01;").back(0, 0), -4);
    }

    private static void lost0To99() {
        DUE.sentence("LOST: behind how many (0 .. 99) a HAT is LOST first; -4");
        DUE.is("lost already: 0", Due.street("p201;h000;w094;t01;").lost(0), 0);
        DUE.is("behind 1", Due.street("p201;h000;w094;").lost(0), 1);
        DUE.is("at 20 it is not lost", Due.street("p161;h000;w094;t01;w090;").lost(0), -4);
        DUE.is("behind 99", gone99().lost(0), 99);
        DUE.is("behind 100", Due.street("p045;h000;w124;").lost(0), -4);
    }

    private static void allWearOfNext() {
        DUE.sentence("ALL WEAR: how many of the next n hours end with nobody BARE");
        HatsOfTheWind x = Due.street("p041;h000;p201;h191;w105;");
        DUE.is("none of 0", x.allWear(0), 0);
        DUE.is("the first", x.allWear(1), 1);
        DUE.is("not the second", x.allWear(2), 1);
        // It flies to 9 and he runs from 4: behind 2, 3, 4, 5 he is bare.
        DUE.is("not up to the fifth", x.allWear(5), 1);
        DUE.is("the sixth", x.allWear(6), 2);
        DUE.is("one of two is always bare", Due.street("p041;h000;w094;t01;w090;p081;").allWear(9), 0);
        HatsOfTheWind y = Due.street("p041;h000;w094;t01;w090;");
        DUE.is("bare at 5 now, at 6 and 7 then, not at 8", y.allWear(5), 3);
    }

    private static void stand() {
        DUE.sentence("STAND: the PLACE .. at the end of most of the next n hours, of several the least; how many");
        HatsOfTheWind x = Due.street("p101;h000;w095;w105;");
        DUE.is("all alike", x.stand(0, 2, 0), 0);
        DUE.is("none", x.stand(0, 2, 1), 0);
        x.shelters(20);
        DUE.is("20 alone", x.stand(0, 2, 0), 20);
        DUE.is("both", x.stand(0, 2, 1), 2);
        x.shelters(0);
        DUE.is("0 as well", x.stand(0, 2, 0), 0);
        DUE.is("he did not go", x.person(0, 0), 10);
        HatsOfTheWind bare = Due.street("p101;");
        DUE.is("no hat anywhere", bare.stand(0, 99, 0), 0);
        DUE.is("none", bare.stand(0, 99, 1), 0);
        HatsOfTheWind lies = Due.street("p151;h000;w095;t01;w090;p002;");
        DUE.is("a hat lies at 20: from 18 on", lies.stand(1, 3, 0), 18);
        DUE.is("all three", lies.stand(1, 3, 1), 3);
    }

    private static void wear() {
        DUE.sentence("WEAR: the HAT (not LOST) .. of several the least; -4 none");
        DUE.is("no hats", Due.street("p001;").wear(0, 9), -4);
        HatsOfTheWind lost = Due.street("p201;h000;w099;t01;");
        DUE.is("lost ones alone", lost.wear(0, 9), -4);
        lost.keep(0, 1, 6, 0);
        lost.wears(0, 0);
        DUE.is("not the lost one", lost.wear(0, 0), 1);
        HatsOfTheWind x = Due.street("p001;h000;p051;h001;p101;h002;");
        DUE.is("all alike", x.wear(2, 9), 0);
        DUE.is("it is a thought", x.person(2, 3), 2);
        HatsOfTheWind y = Due.street("p001;h300;p051;h191;p101;h192;w095;");
        DUE.is("1 and 2 alike", y.wear(0, 9), 1);
        DUE.is("1 and 2 alike", y.wear(2, 9), 1);
    }

    private static void wearInPlaceOfHis() {
        DUE.sentence("(that one is LOOSE where he is; if another one wears it, this one is BARE)");
        // With hat 1 on his head, hat 0 lies at 5, where 1 (then bare) stands: nothing takes the PINNED one.
        HatsOfTheWind x = Due.street("p051;h000;p051;h191;w095;");
        DUE.is("the other one's", x.wear(0, 1), 1);
        DUE.is("his own is best", x.wear(1, 1), 1);
        // Both fall and go to 1. With hat 0 on the head of 1, 0 is bare, and there first for hat 0; hat 1 is left for 1.
        HatsOfTheWind y = Due.street("p005;h700;p001;h701;w093;");
        DUE.is("not hat 0, which 0 has then", y.wear(1, 1), 1);
        DUE.is("hat 0, which 0 has again", y.wear(0, 1), 0);
        // With hat 0 on the head of 1, 0 runs from 12 to hat 1 and meets hat 0 at 6 on his way: 1 has it for 3 hours.
        // With his own 1 is bare for one hour only.
        HatsOfTheWind runs = Due.street("p122;h000;p004;h201;w126;");
        DUE.is("his old one is loose for another one", runs.wear(1, 5), 1);
        // 1 came at 20 and is at 10 now: there lies hat 0, and 0 has it at once, so that 1 has hat 1 again behind 3.
        HatsOfTheWind where = Due.street("p055;p205;h601;h300;w103;");
        where.moves(1, 10);
        DUE.is("it lies where he is, not where he came", where.wear(1, 3), 1);
        // Hat 0, the old one, is loose at once and flies in the first hour, so he can not be there at its end.
        HatsOfTheWind z = Due.street("p001;h300;p201;h601;w091;");
        DUE.is("the STRAW holds 2: it stays on his head", z.wear(0, 1), 0);
        DUE.is("the NEST flies from 0 to 1, where he takes it", z.wear(1, 1), 0);
    }

    private static HatsOfTheWind allWinds(int v) {
        HatsOfTheWind x = new HatsOfTheWind();
        for (int hour = 0; hour < 24; hour++) {
            x.blows(hour, v);
        }
        return x;
    }

    private static void calmWrap() {
        DUE.sentence("CALM: the HOUR from which on 3 one behind the other have least wind together, of several the least");
        for (int first = 0; first < 24; first++) {
            HatsOfTheWind x = allWinds(9);
            for (int k = 0; k < 3; k++) {
                x.blows((first + k) % 24, 2);
            }
            DUE.is("from " + first, x.calm(0), first);
            DUE.is("together", x.calm(1), 6);
        }
        DUE.is("all 0", allWinds(0).calm(0), 0);
        DUE.is("all 0", allWinds(0).calm(1), 0);
        DUE.is("all 9", allWinds(9).calm(0), 0);
        DUE.is("all 9", allWinds(9).calm(1), 27);
        HatsOfTheWind y = allWinds(3);
        y.blows(0, 0);
        DUE.is("0, 22 and 23 alike", y.calm(0), 0);
        y.blows(23, 2);
        DUE.is("22, 23, 0 and 23, 0, 1 alike", y.calm(0), 22);
        y.shelters(0);
        DUE.is("the lee does not matter", y.calm(1), 5);
    }

    private static void gale() {
        DUE.sentence("GALE: the HOUR of most wind, of several the least");
        DUE.is("all 0", allWinds(0).calm(2), 0);
        DUE.is("all 9", allWinds(9).calm(2), 0);
        for (int hour = 0; hour < 24; hour++) {
            HatsOfTheWind x = allWinds(8);
            x.blows(hour, 9);
            x.blows(23, 9);
            DUE.is("at " + hour, x.calm(2), hour);
        }
    }

    private static void fewestPins() {
        DUE.sentence("FEWEST PINS of one (0 .. 9) .. ; -4 (he wears none, too)");
        for (int v = 0; v < 10; v++) {
            HatsOfTheWind x = Due.street("p001;h600;w09" + v + ";");
            // By 1 the NEST flies 1, and he has it again at once.
            DUE.is("a NEST, wind " + v, x.fewestPins(0, 1), v == 1 ? 0 : v);
        }
        DUE.is("bare", Due.street("p001;").fewestPins(0, 99), -4);
        DUE.is("its hat is lost", Due.street("p201;h000;w094;t01;").fewestPins(0, 1), -4);
        // 0 stands at 4 and 2 at 1; with pins or not: what is not taken stays.
        HatsOfTheWind y = Due.street("p001;h000;w089;");
        DUE.is("within 23", y.fewestPins(0, 23), 0);
        DUE.is("within 24", y.fewestPins(0, 24), 6);
    }

    private static void shut() {
        DUE.sentence("SHUT: the PLACE which, LEE now, lets fewest HATS be LOST .. fewer than else, of several the least; -4");
        HatsOfTheWind x = Due.street("p201;h000;w099;");
        DUE.is("20", x.shut(1), 20);
        DUE.is("none is lost behind 0", x.shut(0), -4);
        x.shelters(20);
        DUE.is("lee already", x.shut(1), -4);
        // At 10 hat 0 is taken from 4 to 10 and at 14 past 20. Without the lee at 0 both hats would be taken at 10 and
        // caught again where the wind of 14 does not get them past 20; but told LEE now, 0 is LEE as it was.
        HatsOfTheWind still = Due.street("p041;h000;p005;h001;l00;l02;w122;t01;w149;w106;");
        DUE.is("one is lost", still.then(6, 1), 1);
        DUE.is("4, where it is not taken, and not 0", still.shut(6), 4);
        still.shelters(0);
        DUE.is("without the lee at 0 none is lost", still.then(6, 1), 0);
        DUE.is("so no place makes it fewer", still.shut(6), -4);
        HatsOfTheWind zero = Due.street("p001;h300;w099;w109;");
        DUE.is("0 and 18: the least", zero.shut(2), 0);
        zero.hours(1);
        DUE.is("18", zero.shut(1), 18);
        HatsOfTheWind most = Due.street("p181;h000;p201;h001;p201;h002;w099;");
        DUE.is("20 saves two, 18 one", most.shut(1), 20);
        HatsOfTheWind alike = Due.street("p181;h000;p201;h001;w099;");
        DUE.is("18 and 20 save one each", alike.shut(1), 18);
        DUE.is("no place saves what is lost", Due.street("p201;h000;w099;t01;").shut(99), -4);
        DUE.is("no wind", Due.street("p201;h000;").shut(99), -4);
    }

    private static void bestSale() {
        DUE.sentence("BEST SALE: the HAT that is WORTH most of those that are not LOST behind n hours, of several the least; -4");
        DUE.is("no hats", new HatsOfTheWind().bestSale(0), -4);
        DUE.is("worth 0", Due.street("p001;h600;").bestSale(99), 0);
        HatsOfTheWind x = Due.street("p001;h600;p001;h791;p001;h192;p001;h193;p201;h594;w099;i39;i19;i29;");
        DUE.is("now the TOPPER", x.bestSale(0), 4);
        DUE.is("then 2 and 3 alike", x.bestSale(1), 2);
        DUE.sentence("WORTH of all not LOST then");
        DUE.is("now", x.then(0, 2), 0 + 2 + 3 + 3 + 23);
        DUE.is("then", x.then(1, 2), 0 + 2 + 3 + 3);
        DUE.is("all are lost", Due.street("p201;h590;w099;").then(1, 2), 0);
    }

    private static void race() {
        DUE.sentence("RACE: of PEOPLE who are BARE now the one who wears a hat first, of several the least; -4");
        DUE.is("nobody", new HatsOfTheWind().race(), -4);
        DUE.is("none is bare", Due.street("p001;h000;").race(), -4);
        DUE.is("none is loose", Due.street("p001;p001;h001;").race(), -4);
        // He wears one now: though he has it again first he does not count.
        DUE.is("the other one, behind 99", met99().race(), 0);
        DUE.is("behind 100", Due.street("p101;p001;h701;w123;").race(), -4);
        // Hats lie at 8 and 9; 2 stands at 8, 3 at 9.
        HatsOfTheWind alike = Due.street("p041;h000;p041;h201;w094;t01;w090;p081;p091;");
        alike.moves(0, 0);
        alike.moves(1, 0);
        DUE.is("both at once: the least", alike.race(), 2);
        HatsOfTheWind later = Due.street("p041;h000;w094;t01;w090;p111;p101;");
        later.moves(0, 0);
        DUE.is("the nearer one", later.race(), 2);
    }

    private static void swaps() {
        DUE.sentence("SWAPS: how many HATS are WORN by another one than now behind n hours (those WORN both times)");
        DUE.is("no hats", new HatsOfTheWind().swaps(99), 0);
        // Hats 0 and 1 fly to 8 and 7: for 0, who runs first, 7 is nearer.
        HatsOfTheWind x = Due.street("p045;h000;p035;h001;w094;");
        DUE.is("by whom 0", x.hatThen(0, 1, 1), 1);
        DUE.is("by whom 1", x.hatThen(1, 1, 1), 0);
        DUE.is("both", x.swaps(1), 2);
        DUE.is("now", x.swaps(0), 0);
        HatsOfTheWind loose = Due.street("p041;h000;w094;t01;w090;p081;");
        DUE.is("loose now, worn then", loose.swaps(1), 0);
        HatsOfTheWind falls = Due.street("p041;h000;w094;");
        DUE.is("worn now, loose then", falls.swaps(1), 0);
        DUE.is("worn now, his again then", falls.swaps(4), 0);
        DUE.is("worn now, lost then", Due.street("p201;h000;w094;").swaps(1), 0);
        HatsOfTheWind eight = Due.street("p201;w099;p001;p001;");
        eight.keep(0, 1, 3, 0);
        for (int hat = 0; hat < 6; hat++) {
            eight.wears(0, 0);
            eight.hours(24);
        }
        eight.moves(1, 4);
        eight.moves(2, 3);
        eight.blows(9, 3);
        eight.wears(0, 1);
        eight.wears(0, 2);
        eight.moves(0, 0);
        DUE.is("eight hats", eight.count(1), 8);
        DUE.is("6 and 7 are taken, nobody is there so soon", eight.swaps(1), 0);
        DUE.is("now", eight.swaps(0), 0);
    }
}
