/** All that calls can tell of an object without a change, written down so that two looks can be compared. */
final class Look {
    private Look() {
    }

    static String at(HatsOfTheWind x) {
        StringBuilder seen = new StringBuilder();
        for (int what = 0; what < 7; what++) {
            seen.append(x.count(what)).append(' ');
        }
        for (int hour = 0; hour < 24; hour++) {
            seen.append(x.wind(hour));
        }
        for (int hat = 0; hat < 8; hat++) {
            seen.append(" h");
            for (int what = 0; what < 6; what++) {
                seen.append(x.hat(hat, what)).append(' ');
            }
        }
        for (int person = 0; person < 6; person++) {
            seen.append(" p");
            for (int what = 0; what < 4; what++) {
                seen.append(x.person(person, what)).append(' ');
            }
        }
        for (int d = 0; d < 8; d++) {
            shelf(x, d, seen);
        }
        return seen.toString();
    }

    private static void shelf(HatsOfTheWind x, int d, StringBuilder seen) {
        seen.append(" s").append(x.cost(d)).append(' ').append(x.toss(d));
        // Rows of one sort can be copied onto one another, if only none of it.
        for (int e = 0; e < 8; e++) {
            seen.append(' ').append(x.copy(d, 0, e, 0, 0));
        }
        try {
            for (int i = 0; i < 100; i++) {
                seen.append(' ').append(x.element(d, i));
            }
        } catch (IllegalStateException end) {
            seen.append(" end");
        }
    }
}
