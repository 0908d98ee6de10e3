/** The boundary cases of THE TEXT of a STREET and of promise 2, a sentence at a time. */
public final class BoundsOfTextTest {
    private static final Due DUE = new Due("BoundsOfTextTest");
    private static final String SIX = "p001;".repeat(6);

    public static void main(String[] args) {
        oneAtLeast();
        oneHundredBytes();
        justAsManyDigits();
        anyByteAtAnyPlace();
        somethingLacks();
        kind1AheadOfKind2();
        outOfRange();
        noSuchOne();
        onWhatThoseAheadMade();
        dayAbove999();
        noRoom();
        withOneNothing();
        withoutFaultAll();
        rowStays();
        refused();
        DUE.end();
    }

    private static int on(HatsOfTheWind x, String text) {
        Due.lay(x, 0, text);
        return x.street(0);
    }

    private static void told(String text, int want) {
        DUE.is('"' + text + '"', on(new HatsOfTheWind(), text), want);
    }

    private static void oneAtLeast() {
        DUE.sentence("STATEMENTS, each with \";\" behind, one at least");
        told("", -1000);
        told(";", -1000);
        told("l00;", 1);
        told("l00;l00;", 2);
        told("l00;;", -1004);
        told("l00", -1003);
        told("l00l00;", -1003);
    }

    private static void oneHundredBytes() {
        DUE.sentence("0 .. 100 elements: the longest text");
        told("l00;".repeat(25), 25);
        told("w000;".repeat(20), 20);
        told("l00;".repeat(24) + "l000", -1099);
        told("w000;".repeat(19) + "w0000", -1099);
        told("w000;".repeat(19) + "w00", -1098);
        told("w000;".repeat(19) + "l00;x", -1099);
        told("w000;".repeat(19) + "l00;l", -1100);
        told("w000;".repeat(19) + "w240;", -2095);
    }

    private static void justAsManyDigits() {
        DUE.sentence("numbers in THE TEXT have just as many digits as told");
        String[] three = {"p", "h", "w"};
        for (String letter : three) {
            told(letter + ";", -1001);
            told(letter + "0;", -1002);
            told(letter + "00;", -1003);
            told(letter + "0000;", -1004);
        }
        String[] two = {"l", "i", "t"};
        for (String letter : two) {
            told(letter + ";", -1001);
            told(letter + "0;", -1002);
            told(letter + "000;", -1003);
        }
        told("l-1;", -1001);
        told("l+1;", -1001);
        told("l 1;", -1001);
    }

    /** A text that is right is made wrong at one place by one byte: that place is told, whatever the byte. */
    private static void anyByteAtAnyPlace() {
        DUE.sentence("kind 1 the place of the first byte with which no STREET can go on");
        String right = "p001;h000;w000;l00;i00;t01;";
        HatsOfTheWind x = new HatsOfTheWind();
        Due.lay(x, 0, right);
        x.image();
        for (int place = 0; place < right.length(); place++) {
            char due = right.charAt(place);
            for (int b = -128; b < 128; b++) {
                boolean digits = due >= '0' && due <= '9' && b >= '0' && b <= '9';
                // Another letter may go on for a while: only what can not go on at this very place is asked here.
                boolean letters = due >= 'a' && "phwlit".indexOf((char) b) >= 0;
                if (digits || letters || b == due) {
                    continue;
                }
                x.put(0, place, b);
                DUE.is("byte " + b + " at " + place, x.street(0), -1000 - place);
            }
            x.put(0, place, due);
        }
        DUE.is("right again", x.street(0), 6);
    }

    private static void somethingLacks() {
        DUE.sentence("(the end, if something lacks): -1000 less the place");
        String right = "p001;h000;w000;l00;i00;t01;";
        for (int end = 0; end <= right.length(); end++) {
            String text = right.substring(0, end);
            boolean whole = text.endsWith(";");
            int statements = text.length() - text.replace(";", "").length();
            told(text, whole ? statements : -1000 - end);
        }
    }

    private static void kind1AheadOfKind2() {
        DUE.sentence("else kind 2: a FAULT of kind 1 goes ahead, wherever it is");
        told("p991;x", -1005);
        told("p991;p", -1006);
        told("h000;h00", -1008);
        told("t00;t61;l99;?", -1012);
        told("p991;l00;", -2000);
        told("l00;p991;", -2004);
    }

    private static void outOfRange() {
        DUE.sentence("a number out of range");
        told("p001;", 1);
        told("p205;", 1);
        told("p211;", -2000);
        told("p991;", -2000);
        told("p000;", -2000);
        told("p006;", -2000);
        told("p009;", -2000);
        told("p001;h790;", 2);
        told("p001;h800;", -2005);
        told("p001;h990;", -2005);
        told("w000;w239;", 2);
        told("w240;", -2000);
        told("w990;", -2000);
        told("l20;", 1);
        told("l21;", -2000);
        told("l99;", -2000);
        told("p001;i09;", 2);
        told("t01;", 1);
        told("t60;", 1);
        told("t00;", -2000);
        told("t61;", -2000);
        told("t99;", -2000);
    }

    private static void noSuchOne() {
        DUE.sentence("no such one");
        told("h000;", -2000);
        told("i00;", -2000);
        told("p001;h001;", -2005);
        told("p001;h009;", -2005);
        told("p001;i10;", -2005);
        told("p001;i90;", -2005);
        told(SIX + "h005;i59;", 8);
        told(SIX + "h006;", -2030);
        told(SIX + "i60;", -2030);
    }

    private static void onWhatThoseAheadMade() {
        DUE.sentence("each on what those ahead of it made, and the first that can't be done so is told");
        told("p001;h000;", 2);
        told("h000;p001;", -2000);
        told("p001;i01;", 2);
        told("i01;p001;", -2000);
        DUE.sentence("a hat for one who wears one");
        told("p001;h000;h000;", -2010);
        told("p001;h000;w094;t01;h000;", 5);
        told("p005;h000;w094;t01;h000;", -2019);
        told("p001;h000;w093;t01;h000;", -2019);
        told("p001;h000;w094;l00;t01;h000;", -2023);
        told("p001;h000;l00;l00;w094;t01;h000;", 7);
        told("p001;h000;h000;h001;l99;", -2010);
    }

    private static void dayAbove999() {
        DUE.sentence("DAY above 999");
        HatsOfTheWind x = new HatsOfTheWind();
        for (int k = 0; k < 398; k++) {
            x.hours(60);
        }
        x.hours(20);
        // 23900 hours from 9 on day 0: day 996, 5 o'clock; 90 hours are left.
        DUE.is("day", x.count(3), 996);
        DUE.is("hour", x.count(2), 5);
        x.image();
        DUE.is("91 hours", on(x, "l00;t60;t31;"), -2008);
        DUE.is("nothing came", x.count(3), 996);
        DUE.is("no lee", x.count(6), 0);
        DUE.is("90 hours", on(x, "l00;t60;t30;"), 3);
        DUE.is("day", x.count(3), 999);
        DUE.is("hour", x.count(2), 23);
        DUE.is("one more", on(x, "t01;"), -2000);
        DUE.is("without hours", on(x, "l00;"), 1);
    }

    private static void noRoom() {
        DUE.sentence("no room");
        told(SIX, 6);
        told(SIX + "p001;", -2030);
        HatsOfTheWind x = new HatsOfTheWind();
        x.comes(0, 1);
        DUE.is("with one there already", on(x, SIX), -2025);
        DUE.is("nobody came", x.count(0), 1);
        HatsOfTheWind y = Due.street("p201;w099;w109;w119;w129;");
        DUE.is("four hats", on(y, "h300;t01;".repeat(4)), 8);
        y.hours(20);
        DUE.is("four more, a fifth", on(y, "h300;t01;".repeat(4) + "h300;"), -2036);
        DUE.is("four are there", y.count(1), 4);
        DUE.is("four more", on(y, "h300;t01;".repeat(4)), 8);
        DUE.is("eight", y.count(1), 8);
        DUE.is("a ninth", on(y, "h300;"), -2000);
    }

    private static void withOneNothing() {
        DUE.sentence("with one nothing (comes)");
        String[] wrong = {"x", "l", "l99;", "t00;", "h009;"};
        for (String end : wrong) {
            HatsOfTheWind x = Due.street("p031;h770;w012;l07;i05;t03;");
            String ahead = Look.at(x);
            int fault = on(x, "p001;h001;w239;w012;l08;l07;i12;i04;t60;" + end);
            DUE.isTrue("a fault: " + fault, fault == -1040 || fault == -1041 || fault == -2040);
            x.keep(0, 0, 0, 0);
            DUE.isTrue("all is as it was, with " + end, Look.at(x).equals(ahead));
        }
    }

    private static void withoutFaultAll() {
        DUE.sentence("Without FAULT all of it comes");
        HatsOfTheWind x = new HatsOfTheWind();
        DUE.is("six", on(x, "p205;h790;w239;l20;i09;t60;"), 6);
        DUE.is("AT", x.person(0, 0), 20);
        DUE.is("PACE", x.person(0, 1), 5);
        DUE.is("PINS", x.person(0, 2), 9);
        DUE.is("KIND", x.hat(0, 0), 7);
        DUE.is("FIGURE", x.hat(0, 1), 9);
        DUE.is("WORN", x.hat(0, 2), 0);
        DUE.is("WIND", x.wind(23), 9);
        DUE.is("LEE", x.count(6), 1 << 20);
        DUE.is("HOUR", x.count(2), 21);
        DUE.is("DAY", x.count(3), 2);
        DUE.sentence("\"l\" a PLACE (2 digits): LEE, or, told again, not");
        DUE.is("told again", on(x, "l20;"), 1);
        DUE.is("not", x.count(6), 0);
        DUE.is("twice and once more", on(x, "l00;l00;l20;l00;"), 4);
        DUE.is("both", x.count(6), 1 + (1 << 20));
        DUE.sentence("\"p\": one more");
        DUE.is("one more", on(x, "p001;"), 1);
        DUE.is("two", x.count(0), 2);
    }

    private static void rowStays() {
        DUE.sentence("The ROW of a text .. stay[s] there");
        HatsOfTheWind x = new HatsOfTheWind();
        DUE.is("once", on(x, "p001;"), 1);
        DUE.is("twice", x.street(0), 1);
        DUE.is("two", x.count(0), 2);
        DUE.is("element", x.element(0, 4), ';');
        DUE.is("with a fault", on(x, "l99;"), -2000);
        DUE.is("element", x.element(0, 1), '9');
        DUE.is("again", x.street(0), -2000);
    }

    private static void refused() {
        DUE.sentence("street: -1, -11, -12 (no ROW of bytes)");
        HatsOfTheWind x = new HatsOfTheWind();
        int[] out = {Integer.MIN_VALUE, -1, 8, Integer.MAX_VALUE};
        for (int d : out) {
            DUE.is("shelf " + d, x.street(d), -1);
        }
        for (int d = 0; d < 8; d++) {
            DUE.is("nothing on shelf " + d, x.street(d), -11);
            x.keep(d, 1, 0, 0);
            DUE.is("a hat", x.street(d), -12);
            x.row(d, 1, 4);
            DUE.is("shorts", x.street(d), -12);
            x.row(d, 2, 0);
            DUE.is("ints", x.street(d), -12);
            Due.lay(x, d, "w000;");
            DUE.is("bytes", x.street(d), 1);
        }
        DUE.sentence("what is put in keeps its lowest bits: bytes of a text");
        x.row(0, 0, 4);
        x.put(0, 0, 'l' + 256);
        x.put(0, 1, '0' - 256);
        x.put(0, 2, '5' + 65536);
        x.put(0, 3, ';');
        DUE.is("l05;", x.street(0), 1);
        DUE.is("lee", x.count(6), 1 << 5);
    }
}
