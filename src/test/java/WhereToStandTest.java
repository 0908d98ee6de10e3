/** Promises 21 to 28: where to stand, what to wear. */
public final class WhereToStandTest {
    private static final Due DUE = new Due("WhereToStandTest");

    public static void main(String[] args) {
        stand();
        wear();
        calm();
        fewestPins();
        shut();
        bestSale();
        race();
        swaps();
        DUE.end();
    }

    private static void stand() {
        HatsOfTheWind x = Due.street("p051;h000;w095;");
        DUE.is("bare everywhere: the least", x.stand(0, 3, 0), 0);
        DUE.is("how many", x.stand(0, 3, 1), 0);
        x.shelters(12);
        x.shelters(17);
        DUE.is("in the lee, the least", x.stand(0, 3, 0), 12);
        DUE.is("how many", x.stand(0, 3, 1), 3);
        DUE.is("no hours", x.stand(0, 0, 0), 0);
        DUE.is("no hours", x.stand(0, 0, 1), 0);
        DUE.is("he is where he was", x.person(0, 0), 5);
        // A loose hat lies at 9, 0 is at 5 and would have it behind 4 hours.
        HatsOfTheWind y = Due.street("p041;h000;w095;t01;p201;");
        DUE.is("near enough to be first at once", y.stand(1, 4, 0), 8);
        DUE.is("how many", y.stand(1, 4, 1), 4);
        DUE.is("person 2", y.stand(2, 4, 0), -1);
        DUE.is("person -1", y.stand(-1, 4, 0), -1);
        DUE.is("n 100", y.stand(0, 100, 0), -1);
        DUE.is("n -1", y.stand(0, -1, 0), -1);
        DUE.is("what 2", y.stand(0, 4, 2), -1);
        DUE.is("what -1", y.stand(0, 4, -1), -1);
        // 20 is a place, too: the only lee.
        HatsOfTheWind z = Due.street("p051;h000;w095;l20;");
        DUE.is("at 20", z.stand(0, 99, 0), 20);
        DUE.is("for 99", z.stand(0, 99, 1), 99);
    }

    private static void wear() {
        HatsOfTheWind x = Due.street("p051;h000;p101;h191;w095;");
        DUE.is("the other one's", x.wear(0, 5), 1);
        DUE.is("his own", x.wear(1, 5), 1);
        DUE.is("as good: the least", x.wear(1, 0), 0);
        DUE.is("his is still his", x.person(0, 3), 0);
        x.blows(9, 0);
        DUE.is("as good: the least", x.wear(1, 5), 0);
        // The STRAW would fly and he would wear his old one again: that is not the STRAW.
        HatsOfTheWind y = Due.street("p001;p201;h301;h490;l20;w093;");
        DUE.is("hours of that hat alone count", y.wear(0, 5), 1);
        HatsOfTheWind z = Due.street("p201;h000;w095;t01;");
        DUE.is("all are lost", z.wear(0, 5), -4);
        DUE.is("none", Due.street("p001;").wear(0, 5), -4);
        // A loose one far off is on his head in mind: it is as good as any.
        HatsOfTheWind v = Due.street("p001;h000;w095;t01;w090;p201;");
        DUE.is("a loose one", v.wear(1, 9), 0);
        DUE.is("person 2", v.wear(2, 9), -1);
        DUE.is("person -1", v.wear(-1, 9), -1);
        DUE.is("n 100", v.wear(0, 100), -1);
        DUE.is("n -1", v.wear(0, -1), -1);
    }

    private static HatsOfTheWind allWinds(int v) {
        HatsOfTheWind x = new HatsOfTheWind();
        for (int hour = 0; hour < 24; hour++) {
            x.blows(hour, v);
        }
        return x;
    }

    private static void calm() {
        HatsOfTheWind x = allWinds(5);
        DUE.is("all alike", x.calm(0), 0);
        DUE.is("all alike", x.calm(1), 15);
        DUE.is("all alike", x.calm(2), 0);
        x.blows(21, 1);
        DUE.is("19 to 21", x.calm(0), 19);
        DUE.is("together", x.calm(1), 11);
        x.blows(4, 1);
        DUE.is("2 to 4 as well: the least", x.calm(0), 2);
        x.blows(5, 6);
        x.blows(3, 6);
        x.blows(17, 7);
        x.blows(20, 7);
        DUE.is("gale: the least", x.calm(2), 17);
        HatsOfTheWind y = allWinds(5);
        y.blows(22, 1);
        y.blows(23, 1);
        y.blows(0, 1);
        DUE.is("behind 23 comes 0", y.calm(0), 22);
        DUE.is("together", y.calm(1), 3);
        DUE.is("what 3", y.calm(3), -1);
        DUE.is("what -1", y.calm(-1), -1);
    }

    private static void fewestPins() {
        HatsOfTheWind x = Due.street("p001;h000;w106;w119;p051;");
        DUE.is("no wind yet", x.fewestPins(0, 1), 0);
        DUE.is("wind 6", x.fewestPins(0, 2), 3);
        DUE.is("wind 9", x.fewestPins(0, 99), 6);
        x.pins(0, 9);
        DUE.is("whatever he has", x.fewestPins(0, 2), 3);
        DUE.is("he has them still", x.person(0, 2), 9);
        DUE.is("wears none", x.fewestPins(1, 2), -4);
        DUE.is("out of range ahead of none", x.fewestPins(1, 0), -1);
        DUE.is("n 0", x.fewestPins(0, 0), -1);
        DUE.is("n 100", x.fewestPins(0, 100), -1);
        DUE.is("person 2", x.fewestPins(2, 1), -1);
        DUE.is("person -1", x.fewestPins(-1, 1), -1);
        HatsOfTheWind nest = Due.street("p001;h600;w099;");
        DUE.is("all of them", nest.fewestPins(0, 1), 9);
        HatsOfTheWind fast = Due.street("p005;h000;w094;");
        DUE.is("he has it again at once", fast.fewestPins(0, 30), 0);
    }

    private static void shut() {
        HatsOfTheWind x = Due.street("p201;h000;w125;");
        DUE.is("not lost yet", x.shut(3), -4);
        DUE.is("lost but for it", x.shut(4), 20);
        DUE.is("it is not lee", x.count(6), 0);
        DUE.is("no hours", x.shut(0), -4);
        DUE.is("n 100", x.shut(100), -1);
        DUE.is("n -1", x.shut(-1), -1);
        HatsOfTheWind y = Due.street("p001;h000;w097;w107;w117;");
        DUE.is("0, 7 and 14: the least", y.shut(3), 0);
        y.hours(1);
        DUE.is("7 and 14: the least", y.shut(2), 7);
        // Two are lost from 19, one from 20: 19 saves more.
        HatsOfTheWind z = Due.street("p181;h000;p191;h001;p191;h002;w095;");
        DUE.is("saves two", z.shut(1), 19);
        HatsOfTheWind lost = Due.street("p201;h000;w095;t01;");
        DUE.is("what is lost stays so", lost.shut(9), -4);
        HatsOfTheWind lee = Due.street("p201;h000;w095;l20;");
        DUE.is("lee already: none is lost", lee.shut(9), -4);
        DUE.is("it is lee still", lee.count(6), 1 << 20);
    }

    private static void bestSale() {
        HatsOfTheWind x = Due.street("p001;h000;p201;h591;p031;h392;p052;h713;w099;");
        DUE.is("the TOPPER", x.bestSale(0), 1);
        DUE.is("it is lost: HAT and CAP, the least", x.bestSale(1), 0);
        DUE.is("n 100", x.bestSale(100), -1);
        DUE.is("n -1", x.bestSale(-1), -1);
        HatsOfTheWind y = Due.street("p201;h000;w095;");
        DUE.is("all are lost", y.bestSale(1), -4);
        HatsOfTheWind z = Due.street("p201;h600;");
        DUE.is("worth 0 is one, too", z.bestSale(1), 0);
    }

    private static void race() {
        HatsOfTheWind x = Due.street("p041;h000;w095;t01;w090;");
        DUE.is("alone", x.race(), 0);
        x.comes(14, 5);
        DUE.is("1 is there at once", x.race(), 1);
        x.comes(9, 1);
        DUE.is("he runs ahead of 2 by his number", x.race(), 1);
        x.moves(1, 20);
        DUE.is("now 2 is first", x.race(), 2);
        x.keep(0, 1, 0, 0);
        x.wears(0, 2);
        DUE.is("2 is not bare; 1 runs for 3 hours, 0 for 4", x.race(), 1);
        HatsOfTheWind two = Due.street("p021;h000;p001;h001;w097;t01;w090;p081;p081;");
        DUE.is("hats at 9 and 7, two at 8: the least", two.race(), 2);
        DUE.is("both in one hour", two.then(1, 0), 3);
        DUE.is("none is bare", Due.street("p001;h000;").race(), -4);
        DUE.is("no hat", Due.street("p001;").race(), -4);
        // He wears it, and so is not bare; the one who is gets it only on the next day.
        HatsOfTheWind late = Due.street("p001;h000;p041;w084;");
        DUE.is("behind 24 hours", late.race(), 1);
    }

    private static void swaps() {
        HatsOfTheWind x = Due.street("p091;p055;h001;w094;p201;h192;");
        DUE.is("now", x.swaps(0), 0);
        DUE.is("worn by another one", x.swaps(1), 1);
        HatsOfTheWind y = Due.street("p001;h000;w095;");
        DUE.is("loose then", y.swaps(1), 0);
        DUE.is("his again", y.swaps(9), 0);
        y.hours(1);
        DUE.is("loose now", y.swaps(9), 0);
        DUE.is("n 100", x.swaps(100), -1);
        DUE.is("n -1", x.swaps(-1), -1);
    }
}
