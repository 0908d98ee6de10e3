/** Promises 1 to 12: the street as told. */
public final class StreetToldTest {
    private static final Due DUE = new Due("StreetToldTest");

    public static void main(String[] args) {
        newObject();
        statements();
        wrongBytes();
        wrongStatements();
        nothingComesWithAFault();
        hatsTold();
        peopleTold();
        winds();
        comes();
        wears();
        noRoomForHats();
        sheltersPinsMoves();
        anHour();
        thoseWhoRun();
        hoursAndDays();
        DUE.end();
    }

    private static void newObject() {
        HatsOfTheWind x = new HatsOfTheWind();
        int[] want = {0, 0, 9, 0, 0, 0, 0};
        for (int what = 0; what < 7; what++) {
            DUE.is("new: count(" + what + ")", x.count(what), want[what]);
        }
        for (int hour = 0; hour < 24; hour++) {
            DUE.is("new: wind", x.wind(hour), 0);
        }
        DUE.is("new: hat", x.hat(0, 0), -1);
        DUE.is("new: person", x.person(0, 0), -1);
        DUE.is("new: restore", x.restore(), -3);
        DUE.is("new: put", x.put(7, 0, 0), -11);
    }

    private static int answerOf(String text) {
        HatsOfTheWind x = new HatsOfTheWind();
        Due.lay(x, 0, text);
        return x.street(0);
    }

    private static void statements() {
        DUE.is("one", answerOf("p001;"), 1);
        DUE.is("several", answerOf("p205;h790;w239;l20;i09;t60;"), 6);
        HatsOfTheWind x = new HatsOfTheWind();
        Due.lay(x, 3, "p123;h250;w127;l03;l04;l03;i04;t02;");
        DUE.is("street", x.street(3), 8);
        DUE.is("people", x.count(0), 1);
        DUE.is("hats", x.count(1), 1);
        DUE.is("hour", x.count(2), 11);
        DUE.is("lee, told again not", x.count(6), 1 << 4);
        DUE.is("wind", x.wind(12), 7);
        DUE.is("pins", x.person(0, 2), 4);
        DUE.is("at", x.person(0, 0), 12);
        DUE.is("pace", x.person(0, 1), 3);
        DUE.is("kind", x.hat(0, 0), 2);
        DUE.is("figure", x.hat(0, 1), 5);
        DUE.is("the row stays", x.element(3, 0), 'p');
        DUE.is("again: more of them", x.street(3), -2005);
        DUE.is("no such shelf", x.street(8), -1);
        DUE.is("no such shelf", x.street(-1), -1);
        DUE.is("nothing", x.street(0), -11);
        x.keep(0, 1, 0, 0);
        DUE.is("a hat", x.street(0), -12);
        x.row(0, 1, 5);
        DUE.is("shorts", x.street(0), -12);
        x.row(0, 2, 5);
        DUE.is("ints", x.street(0), -12);
    }

    private static void wrongBytes() {
        DUE.is("empty", answerOf(""), -1000);
        DUE.is("only ;", answerOf(";"), -1000);
        DUE.is("no letter of these", answerOf("x001;"), -1000);
        DUE.is("a great letter", answerOf("P001;"), -1000);
        DUE.is("end behind the letter", answerOf("p"), -1001);
        DUE.is("end in the digits", answerOf("p00"), -1003);
        DUE.is("no ;", answerOf("p001"), -1004);
        DUE.is("a digit too many", answerOf("p0011;"), -1004);
        DUE.is("a digit too few", answerOf("p01;"), -1003);
        DUE.is("l with three", answerOf("l001;"), -1003);
        DUE.is("i with three", answerOf("i001;"), -1003);
        DUE.is("t with three", answerOf("t001;"), -1003);
        DUE.is("h with two", answerOf("h01;"), -1003);
        DUE.is("w with two", answerOf("w01;"), -1003);
        DUE.is("sign below 0", answerOf("p/01;"), -1001);
        DUE.is("sign above 9", answerOf("p0:1;"), -1002);
        DUE.is("second statement", answerOf("p001; p001;"), -1005);
        DUE.is("a byte 0 behind", answerOf("p001;\0"), -1005);
        DUE.is("a byte ahead of a statement", answerOf("p990;p"), -1006);
        DUE.is("all of 100 bytes", answerOf("w000;".repeat(20)), 20);
    }

    private static void wrongStatements() {
        DUE.is("AT 21", answerOf("p211;"), -2000);
        DUE.is("AT 99", answerOf("w000;p991;"), -2005);
        DUE.is("PACE 0", answerOf("p200;"), -2000);
        DUE.is("PACE 6", answerOf("p206;"), -2000);
        DUE.is("seven people", answerOf("p001;p001;p001;p001;p001;p001;p001;"), -2030);
        DUE.is("KIND 8", answerOf("p001;h800;"), -2005);
        DUE.is("KIND 9", answerOf("p001;h900;"), -2005);
        DUE.is("no such one to wear it", answerOf("p001;h001;"), -2005);
        DUE.is("he comes behind", answerOf("h000;p001;"), -2000);
        DUE.is("he wears one", answerOf("p001;h000;h000;"), -2010);
        DUE.is("HOUR 24", answerOf("w240;"), -2000);
        DUE.is("PLACE 21", answerOf("l21;"), -2000);
        DUE.is("pins of nobody", answerOf("p001;i10;"), -2005);
        DUE.is("no hours", answerOf("t00;"), -2000);
        DUE.is("61 hours", answerOf("t60;t61;"), -2004);
        DUE.is("the first of several", answerOf("l20;l21;p990;"), -2004);
        DUE.is("a wrong byte goes ahead", answerOf("l21;x"), -1004);
    }

    private static void nothingComesWithAFault() {
        HatsOfTheWind x = new HatsOfTheWind();
        Due.lay(x, 0, "p001;h000;w098;l05;i05;t05;l21;");
        DUE.is("street", x.street(0), -2027);
        int[] want = {0, 0, 9, 0, 0, 0, 0};
        for (int what = 0; what < 7; what++) {
            DUE.is("nothing came: count(" + what + ")", x.count(what), want[what]);
        }
        DUE.is("nothing came: wind", x.wind(9), 0);
    }

    private static void hatsTold() {
        HatsOfTheWind x = Due.street("p043;h550;w099;t01;p204;h210;p001;h361;");
        // The TOPPER flew 9 + 1 + 1 from 4; he ran after it by 3, the others came later.
        DUE.is("KIND", x.hat(0, 0), 5);
        DUE.is("FIGURE", x.hat(0, 1), 5);
        DUE.is("nobody", x.hat(0, 2), 9);
        DUE.is("where", x.hat(0, 3), 15);
        DUE.is("HOLDS", x.hat(0, 4), 3);
        DUE.is("WORTH", x.hat(0, 5), 19);
        DUE.is("worn by", x.hat(1, 2), 0);
        DUE.is("where he is", x.hat(1, 3), 7);
        DUE.is("where he is", x.hat(2, 3), 20);
        x.blows(10, 9);
        x.hours(1);
        DUE.is("LOST", x.hat(0, 3), 21);
        DUE.is("LOST: nobody", x.hat(0, 2), 9);
        DUE.is("no such", x.hat(3, 0), -1);
        DUE.is("no such", x.hat(-1, 0), -1);
        DUE.is("what 6", x.hat(0, 6), -1);
        DUE.is("what -1", x.hat(0, -1), -1);
    }

    private static void peopleTold() {
        HatsOfTheWind x = Due.street("p172;p035;h001;i17;");
        DUE.is("AT", x.person(0, 0), 17);
        DUE.is("PACE", x.person(0, 1), 2);
        DUE.is("PINS", x.person(0, 2), 0);
        DUE.is("BARE", x.person(0, 3), 9);
        DUE.is("AT", x.person(1, 0), 3);
        DUE.is("PACE", x.person(1, 1), 5);
        DUE.is("PINS", x.person(1, 2), 7);
        DUE.is("HAT", x.person(1, 3), 0);
        DUE.is("no such", x.person(2, 0), -1);
        DUE.is("no such", x.person(-1, 0), -1);
        DUE.is("what 4", x.person(0, 4), -1);
        DUE.is("what -1", x.person(0, -1), -1);
    }

    private static void winds() {
        HatsOfTheWind x = new HatsOfTheWind();
        DUE.is("blows", x.blows(0, 9), 0);
        DUE.is("blows", x.blows(23, 4), 0);
        DUE.is("blows", x.blows(0, 2), 9);
        DUE.is("wind", x.wind(0), 2);
        DUE.is("wind", x.wind(23), 4);
        DUE.is("wind -1", x.wind(-1), -1);
        DUE.is("wind 24", x.wind(24), -1);
        DUE.is("blows -1", x.blows(-1, 0), -1);
        DUE.is("blows 24", x.blows(24, 0), -1);
        DUE.is("v -1", x.blows(0, -1), -1);
        DUE.is("v 10", x.blows(0, 10), -1);
        DUE.is("nothing changed", x.wind(0), 2);
    }

    private static void comes() {
        HatsOfTheWind x = new HatsOfTheWind();
        for (int person = 0; person < 6; person++) {
            DUE.is("comes", x.comes(person == 5 ? 20 : 0, person == 5 ? 5 : 1), person);
        }
        DUE.is("no room", x.comes(0, 1), -2);
        DUE.is("out of range ahead of no room", x.comes(21, 1), -1);
        DUE.is("place -1", x.comes(-1, 1), -1);
        DUE.is("pace 0", x.comes(0, 0), -1);
        DUE.is("pace 6", x.comes(0, 6), -1);
        DUE.is("people", x.count(0), 6);
    }

    private static void wears() {
        HatsOfTheWind x = Due.street("p051;p061;");
        x.keep(0, 1, 4, 7);
        x.row(1, 0, 1);
        DUE.is("no such shelf", x.wears(8, 0), -1);
        DUE.is("no such shelf", x.wears(-1, 0), -1);
        DUE.is("no such one", x.wears(0, 2), -1);
        DUE.is("no such one ahead of nothing", x.wears(2, 2), -1);
        DUE.is("nothing", x.wears(2, 0), -11);
        DUE.is("a row", x.wears(1, 0), -12);
        DUE.is("worn", x.wears(0, 1), 0);
        DUE.is("he wears one", x.wears(0, 1), -3);
        DUE.is("nothing ahead of he wears one", x.wears(2, 1), -11);
        DUE.is("the shelf keeps it", x.wears(0, 0), 1);
        DUE.is("kind", x.hat(1, 0), 4);
        DUE.is("figure", x.hat(1, 1), 7);
        DUE.is("by whom", x.hat(1, 2), 0);
    }

    private static void noRoomForHats() {
        HatsOfTheWind x = Due.street("p201;w099;");
        x.keep(0, 1, 3, 0);
        for (int hat = 0; hat < 8; hat++) {
            DUE.is("hat", x.wears(0, 0), hat);
            DUE.is("gone", x.hours(24), 1);
        }
        DUE.is("no room", x.wears(0, 0), -2);
        Due.lay(x, 1, "h000;");
        DUE.is("no room by text", x.street(1), -2000);
        DUE.is("all are lost", x.count(5), 255);
        HatsOfTheWind y = Due.street("p201;w099;");
        y.keep(0, 1, 3, 0);
        for (int hat = 0; hat < 7; hat++) {
            y.wears(0, 0);
            y.hours(24);
        }
        y.wears(0, 0);
        DUE.is("he wears one ahead of no room", y.wears(0, 0), -3);
    }

    private static void sheltersPinsMoves() {
        HatsOfTheWind x = Due.street("p051;h000;");
        DUE.is("lee", x.shelters(0), 1);
        DUE.is("lee", x.shelters(20), 1);
        DUE.is("not any more", x.shelters(0), 0);
        DUE.is("lee places", x.count(6), 1 << 20);
        DUE.is("place 21", x.shelters(21), -1);
        DUE.is("place -1", x.shelters(-1), -1);
        DUE.is("pins", x.pins(0, 9), 0);
        DUE.is("pins", x.pins(0, 3), 9);
        DUE.is("pins 10", x.pins(0, 10), -1);
        DUE.is("pins -1", x.pins(0, -1), -1);
        DUE.is("no such one", x.pins(1, 0), -1);
        DUE.is("pins are as they were", x.person(0, 2), 3);
        DUE.is("moves", x.moves(0, 20), 5);
        DUE.is("moves", x.moves(0, 0), 20);
        DUE.is("his hat with him", x.hat(0, 3), 0);
        DUE.is("place 21", x.moves(0, 21), -1);
        DUE.is("place -1", x.moves(0, -1), -1);
        DUE.is("no such one", x.moves(1, 0), -1);
        DUE.is("he is where he was", x.person(0, 0), 0);
    }

    private static void anHour() {
        // Wind 4 takes what holds 3, but not with a pin, and not in the lee.
        HatsOfTheWind x = Due.street("p001;h000;p051;h001;i11;p101;h002;l10;w094;p183;h003;");
        DUE.is("bare", x.hours(1), 2);
        DUE.is("flew by 4", x.hat(0, 3), 4);
        DUE.is("ran by 1", x.person(0, 0), 1);
        DUE.is("a pin held it", x.hat(1, 2), 1);
        DUE.is("the lee held it", x.hat(2, 2), 2);
        DUE.is("past 20", x.hat(3, 3), 21);
        DUE.is("nothing to run after but hat 0", x.person(3, 0), 15);
        DUE.is("hour", x.count(2), 10);
        // Wind as much as it holds does not take it.
        HatsOfTheWind y = Due.street("p001;h000;w093;");
        DUE.is("held", y.hours(1), 0);
        // At 20 it is still anybody's.
        HatsOfTheWind z = Due.street("p161;h000;w094;");
        DUE.is("bare", z.hours(1), 1);
        DUE.is("at 20", z.hat(0, 3), 20);
        DUE.is("not lost", z.count(5), 0);
        // A loose one in the lee lies still; out of the lee it flies over lee places.
        HatsOfTheWind w = Due.street("p001;h000;w099;l09;w109;");
        w.hours(2);
        DUE.is("lies in the lee", w.hat(0, 3), 9);
        w.shelters(9);
        w.shelters(10);
        w.blows(11, 4);
        w.hours(1);
        DUE.is("flies over the lee", w.hat(0, 3), 13);
    }

    private static void thoseWhoRun() {
        // Both at 10, hats loose at 8 and at 12: as near, so the least number, and only one gets it.
        HatsOfTheWind x = Due.street("p041;h000;p041;h301;w094;t01;");
        DUE.is("hat 0", x.hat(0, 3), 8);
        DUE.is("hat 1", x.hat(1, 3), 12);
        Due.lay(x, 0, "p105;p102;");
        x.street(0);
        x.moves(0, 0);
        x.moves(1, 20);
        DUE.is("bare", x.hours(1), 2);
        DUE.is("the least number", x.person(2, 3), 0);
        DUE.is("no farther", x.person(2, 0), 8);
        DUE.is("then the other", x.person(3, 3), 1);
        DUE.is("0 runs after hat 0", x.person(0, 0), 1);
        DUE.is("1 runs after hat 1", x.person(1, 0), 19);
        // Two on one place: the least of them.
        HatsOfTheWind y = Due.street("p051;h000;p051;h001;w094;t01;p095;");
        DUE.is("hats at 9", y.hat(1, 3), 9);
        y.hours(1);
        DUE.is("he is there: the least", y.person(2, 3), 0);
        // None is loose: he stays.
        HatsOfTheWind z = Due.street("p055;p091;h001;t01;");
        DUE.is("stays", z.person(0, 0), 5);
        // One who wears a hat stays, too.
        HatsOfTheWind w = Due.street("p001;h000;p101;h191;w095;t01;");
        DUE.is("wears one", w.person(1, 0), 10);
    }

    private static void hoursAndDays() {
        HatsOfTheWind x = new HatsOfTheWind();
        DUE.is("hours 0", x.hours(0), -1);
        DUE.is("hours 61", x.hours(61), -1);
        DUE.is("hours -5", x.hours(-5), -1);
        DUE.is("to 23", x.hours(14), 0);
        DUE.is("hour", x.count(2), 23);
        DUE.is("day", x.count(3), 0);
        x.hours(1);
        DUE.is("hour", x.count(2), 0);
        DUE.is("day", x.count(3), 1);
        for (int k = 0; k < 399; k++) {
            x.hours(60);
        }
        DUE.is("day", x.count(3), 998);
        DUE.is("hour", x.count(2), 12);
        x.comes(0, 1);
        DUE.is("not that far", x.hours(36), -3);
        DUE.is("nothing changed", x.count(2), 12);
        DUE.is("as far as can be", x.hours(35), 1);
        DUE.is("day", x.count(3), 999);
        DUE.is("hour", x.count(2), 23);
        DUE.is("no hour more", x.hours(1), -3);
        DUE.is("out of range goes ahead", x.hours(61), -1);
        DUE.is("in mind no matter", x.personThen(0, 99), 0);
        Due.lay(x, 0, "l01;t01;");
        DUE.is("by text", x.street(0), -2004);
        DUE.is("nothing came", x.count(6), 0);
    }
}
