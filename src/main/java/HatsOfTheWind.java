/** Hats on a street, and what the wind does with them: ../shared/DOC.md tells every promise. */
public final class HatsOfTheWind {
    private static final int PLACES = 21;
    private static final int LOST_PLACE = 21;
    private static final int HOURS = 24;
    private static final int MOST_PEOPLE = 6;
    private static final int MOST_HATS = 8;
    private static final int KINDS = 8;
    private static final int MOST_WIND = 9;
    private static final int MOST_PINS = 9;
    private static final int MOST_FIGURE = 9;
    private static final int MOST_PACE = 5;
    private static final int LAST_DAY = 999;
    private static final int FIRST_HOUR = 9;
    private static final int MOST_HOURS_AT_ONCE = 60;
    private static final int FARTHEST = 99;
    private static final int NOBODY = 9;
    private static final int PAIRS = 4;
    private static final int GUST = 3;
    private static final int ALL_BUT_THE_SIGN = 0x7fffffff;

    private static final int SHELVES = 8;
    private static final int MOST_ELEMENTS = 100;
    private static final int BYTES = 0;
    private static final int SHORTS = 1;
    private static final int INTS = 2;

    private static final int NO_SUCH = -1;
    private static final int NO_ROOM = -2;
    private static final int NOT_SO = -3;
    private static final int NONE = -4;
    private static final int EMPTY = -11;
    private static final int OTHER_KIND = -12;
    private static final int NO_PLACE = -13;
    private static final int BELOW_ZERO = -14;
    private static final int NO_FAILURE = -15;
    private static final int ALL_RIGHT = 0;
    private static final long REFUSED_LONG = 1000000000L;

    private final Street now = new Street();
    /** What is thought out happens here, so that the street itself stays as it is. */
    private final Street mind = new Street();
    private final Street kept = new Street();
    private boolean imageTaken = false;
    private final Shelf[] shelves = new Shelf[SHELVES];
    private final int[] gainsOfA = new int[PAIRS];
    private final int[] gainsOfB = new int[PAIRS];

    public HatsOfTheWind() {
        for (int d = 0; d < SHELVES; d++) {
            shelves[d] = new Shelf();
        }
    }

    // ---- the street as told

    public int street(int d) {
        int refusal = refusalOfRow(d);
        if (refusal != ALL_RIGHT) {
            return refusal;
        }
        Shelf text = shelves[d];
        if (text.sort != BYTES) {
            return OTHER_KIND;
        }
        int fault = Text.firstWrongByte(text);
        if (fault != Text.NO_FAULT) {
            return -1000 - fault;
        }
        mind.become(now);
        fault = Text.firstWrongStatement(text, mind);
        if (fault != Text.NO_FAULT) {
            return -2000 - fault;
        }
        now.become(mind);
        return Text.statements(text);
    }

    public int hat(int hat, int what) {
        if (!now.isHat(hat)) {
            return NO_SUCH;
        }
        switch (what) {
            case 0:
                return now.kind[hat];
            case 1:
                return now.figure[hat];
            case 2:
                return now.wearer[hat];
            case 3:
                return now.placeOf(hat);
            case 4:
                return Kinds.holds(now.kind[hat], now.figure[hat]);
            case 5:
                return Kinds.worth(now.kind[hat], now.figure[hat]);
            default:
                return NO_SUCH;
        }
    }

    public int person(int person, int what) {
        if (!now.isPerson(person)) {
            return NO_SUCH;
        }
        switch (what) {
            case 0:
                return now.at[person];
            case 1:
                return now.pace[person];
            case 2:
                return now.pins[person];
            case 3:
                return now.hatOf(person);
            default:
                return NO_SUCH;
        }
    }

    public int wind(int hour) {
        return isHour(hour) ? now.wind[hour] : NO_SUCH;
    }

    public int comes(int place, int pace) {
        return now.addPerson(place, pace);
    }

    public int wears(int d, int person) {
        if (!now.isPerson(person)) {
            return NO_SUCH;
        }
        int refusal = refusalOfHat(d);
        if (refusal != ALL_RIGHT) {
            return refusal;
        }
        return now.addHat(shelves[d].kind, shelves[d].figure, person);
    }

    public int blows(int hour, int v) {
        return now.setWind(hour, v);
    }

    public int shelters(int place) {
        return now.turnLee(place);
    }

    public int pins(int person, int v) {
        return now.setPins(person, v);
    }

    public int moves(int person, int place) {
        if (!now.isPerson(person) || !isPlace(place)) {
            return NO_SUCH;
        }
        int before = now.at[person];
        now.at[person] = place;
        return before;
    }

    public int hours(int n) {
        return now.passToldHours(n);
    }

    // ---- hours on

    public int hatThen(int hat, int n, int what) {
        if (!now.isHat(hat) || !isAhead(n) || !isOneOfTwo(what)) {
            return NO_SUCH;
        }
        think(n);
        return what == 0 ? mind.placeOf(hat) : mind.wearer[hat];
    }

    public int personThen(int person, int n) {
        if (!now.isPerson(person) || !isAhead(n)) {
            return NO_SUCH;
        }
        think(n);
        return mind.at[person];
    }

    public int then(int n, int what) {
        if (!isAhead(n) || !isWithin(what, 0, 2)) {
            return NO_SUCH;
        }
        think(n);
        if (what == 0) {
            return mind.bareOnes();
        }
        return what == 1 ? Integer.bitCount(mind.lostOnes()) : mind.worthLeft();
    }

    public int taken(int hat) {
        if (!now.isHat(hat)) {
            return NO_SUCH;
        }
        if (!now.isWorn(hat)) {
            return NOT_SO;
        }
        think(0);
        return hourTaken(hat, FARTHEST);
    }

    public int caught(int person) {
        if (!now.isPerson(person)) {
            return NO_SUCH;
        }
        think(0);
        for (int n = 0; n <= FARTHEST; n++) {
            if (!mind.isBare(person)) {
                return n;
            }
            mind.passHour();
        }
        return NONE;
    }

    public int back(int person, int hat) {
        if (!now.isPerson(person) || !now.isHat(hat)) {
            return NO_SUCH;
        }
        think(0);
        for (int n = 0; n <= FARTHEST; n++) {
            if (mind.wearer[hat] == person) {
                return n;
            }
            mind.passHour();
        }
        return NONE;
    }

    public int lost(int hat) {
        if (!now.isHat(hat)) {
            return NO_SUCH;
        }
        think(0);
        for (int n = 0; n <= FARTHEST; n++) {
            if (mind.isLost(hat)) {
                return n;
            }
            mind.passHour();
        }
        return NONE;
    }

    public int allWear(int n) {
        if (!isAhead(n)) {
            return NO_SUCH;
        }
        think(0);
        int good = 0;
        for (int k = 0; k < n; k++) {
            mind.passHour();
            if (mind.bareOnes() == 0) {
                good++;
            }
        }
        return good;
    }

    // ---- where to stand, what to wear

    public int stand(int person, int n, int what) {
        if (!now.isPerson(person) || !isAhead(n) || !isOneOfTwo(what)) {
            return NO_SUCH;
        }
        int best = 0;
        int most = -1;
        for (int place = 0; place < PLACES; place++) {
            think(0);
            mind.at[person] = place;
            int covered = hoursCovered(person, n);
            if (covered > most) {
                best = place;
                most = covered;
            }
        }
        return what == 0 ? best : most;
    }

    public int wear(int person, int n) {
        if (!now.isPerson(person) || !isAhead(n)) {
            return NO_SUCH;
        }
        int best = NONE;
        int most = -1;
        for (int hat = 0; hat < now.hats; hat++) {
            if (now.isLost(hat)) {
                continue;
            }
            think(0);
            mind.giveHat(hat, person);
            int worn = hoursWorn(hat, person, n);
            if (worn > most) {
                best = hat;
                most = worn;
            }
        }
        return best;
    }

    public int calm(int what) {
        switch (what) {
            case 0:
                return calmestHour();
            case 1:
                return windOfThree(calmestHour());
            case 2:
                return windiestHour();
            default:
                return NO_SUCH;
        }
    }

    public int fewestPins(int person, int n) {
        if (!now.isPerson(person) || !isWithin(n, 1, FARTHEST)) {
            return NO_SUCH;
        }
        int hat = now.hatOf(person);
        if (!now.isHat(hat)) {
            return NONE;
        }
        for (int pins = 0; pins <= MOST_PINS; pins++) {
            think(0);
            mind.pins[person] = pins;
            if (hourTaken(hat, n) == NONE) {
                return pins;
            }
        }
        return NONE;
    }

    public int shut(int n) {
        if (!isAhead(n)) {
            return NO_SUCH;
        }
        think(n);
        int best = NONE;
        int fewest = Integer.bitCount(mind.lostOnes());
        for (int place = 0; place < PLACES; place++) {
            think(0);
            mind.lee |= 1 << place;
            mind.passHours(n);
            int lost = Integer.bitCount(mind.lostOnes());
            if (lost < fewest) {
                best = place;
                fewest = lost;
            }
        }
        return best;
    }

    public int bestSale(int n) {
        if (!isAhead(n)) {
            return NO_SUCH;
        }
        think(n);
        int best = NONE;
        int most = -1;
        for (int hat = 0; hat < mind.hats; hat++) {
            int worth = Kinds.worth(mind.kind[hat], mind.figure[hat]);
            if (!mind.isLost(hat) && worth > most) {
                best = hat;
                most = worth;
            }
        }
        return best;
    }

    public int race() {
        int runners = now.bareOnes();
        think(0);
        for (int n = 0; n < FARTHEST; n++) {
            mind.passHour();
            int winners = runners & ~mind.bareOnes();
            if (winners != 0) {
                return Integer.numberOfTrailingZeros(winners);
            }
        }
        return NONE;
    }

    public int swaps(int n) {
        if (!isAhead(n)) {
            return NO_SUCH;
        }
        think(n);
        int swapped = 0;
        for (int hat = 0; hat < now.hats; hat++) {
            if (now.isWorn(hat) && mind.isWorn(hat) && now.wearer[hat] != mind.wearer[hat]) {
                swapped++;
            }
        }
        return swapped;
    }

    // ---- winds, what it is

    public int whatIs(int d, int hat, int what) {
        if (!now.isHat(hat) || !isWithin(what, 0, 2)) {
            return NO_SUCH;
        }
        int refusal = refusalOfRow(d);
        if (refusal != ALL_RIGHT) {
            return refusal;
        }
        int guesses = what == 1 ? KINDS : 10;
        int fitting = 0;
        for (int guess = 0; guess < guesses; guess++) {
            think(0);
            suppose(hat, what, guess);
            if (wentAsTold(shelves[d], hat)) {
                fitting |= 1 << guess;
            }
        }
        return fitting;
    }

    public int two(int a, int b, int n) {
        if (!now.isPerson(a) || !now.isPerson(b) || a == b || !isWithin(n, 1, 24)) {
            return NO_SUCH;
        }
        for (int pair = 0; pair < PAIRS; pair++) {
            weighPair(a, b, n, pair);
        }
        for (int pair = 0; pair < PAIRS; pair++) {
            // Bit 1 of a pair is the one's choice, bit 0 the other's.
            if (gainsOfA[pair] >= gainsOfA[pair ^ 2] && gainsOfB[pair] >= gainsOfB[pair ^ 1]) {
                return 10 * (pair >> 1) + (pair & 1);
            }
        }
        return NONE;
    }

    public long gusts(int person, int n, int t, int part) {
        if (!now.isPerson(person) || !isWithin(n, 0, 7) || !isWithin(t, 2, 20) || !isOneOfTwo(part)) {
            return REFUSED_LONG - NO_SUCH;
        }
        long all = 1;
        for (int k = 0; k < n; k++) {
            all *= t;
        }
        long good = 0;
        for (int gusty = 0; gusty < 1 << n; gusty++) {
            good += weightIfCovered(person, n, t, gusty);
        }
        return inLeastTerms(good, all, part);
    }

    public long mean(int part) {
        if (!isOneOfTwo(part)) {
            return REFUSED_LONG - NO_SUCH;
        }
        long sum = 0;
        for (int hour = 0; hour < HOURS; hour++) {
            sum += now.wind[hour];
        }
        return inLeastTerms(sum, HOURS, part);
    }

    public int wager(int d, int hat) {
        if (!now.isHat(hat)) {
            return NO_SUCH;
        }
        int refusal = refusalOfRow(d);
        if (refusal != ALL_RIGHT) {
            return refusal;
        }
        if (!now.isWorn(hat)) {
            return NOT_SO;
        }
        Shelf bets = shelves[d];
        if (bets.size == 0 || !bets.isAllWithin(1, FARTHEST)) {
            return NO_PLACE;
        }
        think(0);
        int hour = hourTaken(hat, FARTHEST);
        return hour == NONE ? NONE : bets.nearestTo(hour);
    }

    // ---- told flights, Thursdays by seeds

    public int forged(int d, int hat) {
        if (!now.isHat(hat)) {
            return NO_SUCH;
        }
        int refusal = refusalOfRow(d);
        if (refusal != ALL_RIGHT) {
            return refusal;
        }
        Shelf flight = shelves[d];
        if (flight.size > 0 && !isWithin(flight.elements[0], 0, LOST_PLACE)) {
            return 0;
        }
        think(0);
        for (int i = 1; i < flight.size; i++) {
            if (flight.elements[i] != mind.landing(hat, flight.elements[i - 1])) {
                return i;
            }
            mind.passClock();
        }
        return NONE;
    }

    public int judge(int d) {
        int refusal = refusalOfRow(d);
        if (refusal != ALL_RIGHT) {
            return refusal;
        }
        Shelf heads = shelves[d];
        think(0);
        for (int i = 0; i < heads.size; i++) {
            if (!heads.isSkipped(i) && heads.elements[i] != Integer.bitCount(mind.bareOnes())) {
                return i;
            }
            mind.passHour();
        }
        return NONE;
    }

    public int thursdays(int n, int z, int what) {
        if (!isWithin(n, 1, 20) || !isOneOfTwo(what)) {
            return NO_SUCH;
        }
        int seed = z;
        int lostMore = 0;
        int bare = 0;
        for (int k = 0; k < n; k++) {
            think(0);
            seed = drawWinds(seed);
            mind.passHours(HOURS);
            lostMore += Integer.bitCount(mind.lostOnes()) - Integer.bitCount(now.lostOnes());
            bare |= mind.bareOnes();
        }
        return what == 0 ? lostMore : bare;
    }

    // ---- the image, what is told

    public int image() {
        kept.become(now);
        imageTaken = true;
        return now.day;
    }

    public int restore() {
        if (!imageTaken) {
            return NOT_SO;
        }
        now.become(kept);
        return now.day;
    }

    public int count(int what) {
        switch (what) {
            case 0:
                return now.people;
            case 1:
                return now.hats;
            case 2:
                return now.hour;
            case 3:
                return now.day;
            case 4:
                return now.bareOnes();
            case 5:
                return now.lostOnes();
            case 6:
                return now.lee;
            default:
                return NO_SUCH;
        }
    }

    // ---- shelves

    public int keep(int d, int what, int k, int figure) {
        if (!isShelf(d) || !isOneOfTwo(what)) {
            return NO_SUCH;
        }
        if (what == 0) {
            shelves[d].clear();
            return ALL_RIGHT;
        }
        if (!isKind(k) || !isFigure(figure)) {
            return NO_SUCH;
        }
        shelves[d].takeHat(k, figure);
        return ALL_RIGHT;
    }

    public int row(int d, int sort, int n) {
        if (!isShelf(d) || !isWithin(sort, BYTES, INTS) || n > MOST_ELEMENTS) {
            return NO_SUCH;
        }
        if (n < 0) {
            return BELOW_ZERO;
        }
        shelves[d].takeRow(sort, n);
        return ALL_RIGHT;
    }

    public int put(int d, int i, int v) {
        int refusal = refusalOfRow(d);
        if (refusal != ALL_RIGHT) {
            return refusal;
        }
        Shelf shelf = shelves[d];
        if (!shelf.isElement(i)) {
            return NO_PLACE;
        }
        shelf.elements[i] = shelf.lowestBits(v);
        return ALL_RIGHT;
    }

    public long element(int d, int i) throws IllegalArgumentException, IllegalStateException {
        if (!isShelf(d)) {
            throw new IllegalArgumentException("no such shelf");
        }
        Shelf shelf = shelves[d];
        if (shelf.holding != Shelf.A_ROW) {
            throw new IllegalStateException("no row is there");
        }
        if (!shelf.isElement(i)) {
            throw new IllegalStateException("no such place in the row");
        }
        return shelf.elements[i];
    }

    public int copy(int d, int i, int e, int j, int n) {
        if (!isShelf(d) || !isShelf(e)) {
            return NO_SUCH;
        }
        Shelf from = shelves[d];
        Shelf to = shelves[e];
        if (from.holding == Shelf.NOTHING || to.holding == Shelf.NOTHING) {
            return EMPTY;
        }
        if (from.holding != Shelf.A_ROW || to.holding != Shelf.A_ROW || from.sort != to.sort) {
            return OTHER_KIND;
        }
        if (!from.isStretch(i, n) || !to.isStretch(j, n)) {
            return NO_PLACE;
        }
        System.arraycopy(from.elements, i, to.elements, j, n);
        return n;
    }

    public int cost(int d) {
        int refusal = refusalOfHat(d);
        if (refusal != ALL_RIGHT) {
            return refusal;
        }
        return Kinds.worth(shelves[d].kind, shelves[d].figure);
    }

    public int toss(int d) {
        int refusal = refusalOfHat(d);
        if (refusal != ALL_RIGHT) {
            return refusal;
        }
        return failureCaught(shelves[d].kind, shelves[d].figure);
    }

    // ---- what the calls share

    private static boolean isWithin(int v, int least, int most) {
        return v >= least && v <= most;
    }

    private static boolean isOneOfTwo(int what) {
        return what == 0 || what == 1;
    }

    private static boolean isPlace(int place) {
        return isWithin(place, 0, PLACES - 1);
    }

    private static boolean isHour(int hour) {
        return isWithin(hour, 0, HOURS - 1);
    }

    private static boolean isKind(int kind) {
        return isWithin(kind, 0, KINDS - 1);
    }

    private static boolean isFigure(int figure) {
        return isWithin(figure, 0, MOST_FIGURE);
    }

    private static boolean isAhead(int n) {
        return isWithin(n, 0, FARTHEST);
    }

    private static boolean isShelf(int d) {
        return isWithin(d, 0, SHELVES - 1);
    }

    private int refusalOfRow(int d) {
        return refusalUnless(d, Shelf.A_ROW);
    }

    private int refusalOfHat(int d) {
        return refusalUnless(d, Shelf.A_HAT);
    }

    private int refusalUnless(int d, int wanted) {
        if (!isShelf(d)) {
            return NO_SUCH;
        }
        if (shelves[d].holding == Shelf.NOTHING) {
            return EMPTY;
        }
        return shelves[d].holding == wanted ? ALL_RIGHT : OTHER_KIND;
    }

    private void think(int n) {
        mind.become(now);
        mind.passHours(n);
    }

    /** The hour within n behind which its wearer in mind first wears the hat no more, or NONE. */
    private int hourTaken(int hat, int n) {
        int wearer = mind.wearer[hat];
        for (int k = 1; k <= n; k++) {
            mind.passHour();
            if (mind.wearer[hat] != wearer) {
                return k;
            }
        }
        return NONE;
    }

    private int hoursCovered(int person, int n) {
        int covered = 0;
        for (int k = 0; k < n; k++) {
            mind.passHour();
            if (!mind.isBare(person)) {
                covered++;
            }
        }
        return covered;
    }

    private int hoursWorn(int hat, int person, int n) {
        int worn = 0;
        for (int k = 0; k < n; k++) {
            mind.passHour();
            if (mind.wearer[hat] == person) {
                worn++;
            }
        }
        return worn;
    }

    /** Behind 23 comes 0, here as when hours go by. */
    private int windOfThree(int hour) {
        return now.wind[hour % HOURS] + now.wind[(hour + 1) % HOURS] + now.wind[(hour + 2) % HOURS];
    }

    private int calmestHour() {
        int calmest = 0;
        for (int hour = 1; hour < HOURS; hour++) {
            if (windOfThree(hour) < windOfThree(calmest)) {
                calmest = hour;
            }
        }
        return calmest;
    }

    private int windiestHour() {
        int windiest = 0;
        for (int hour = 1; hour < HOURS; hour++) {
            if (now.wind[hour] > now.wind[windiest]) {
                windiest = hour;
            }
        }
        return windiest;
    }

    private void suppose(int hat, int what, int guess) {
        if (what == 0) {
            mind.wind[mind.hour] = guess;
        } else if (what == 1) {
            mind.kind[hat] = guess;
        } else {
            mind.figure[hat] = guess;
        }
    }

    private boolean wentAsTold(Shelf told, int hat) {
        for (int i = 0; i < told.size; i++) {
            if (!told.isSkipped(i) && told.elements[i] != mind.placeOf(hat)) {
                return false;
            }
            mind.passHour();
        }
        return true;
    }

    private void weighPair(int a, int b, int n, int pair) {
        int choiceOfA = pair >> 1;
        int choiceOfB = pair & 1;
        think(0);
        mind.holdOn(a, choiceOfA);
        mind.holdOn(b, choiceOfB);
        int gainOfA = -choiceOfA * (n / 3);
        int gainOfB = -choiceOfB * (n / 3);
        for (int k = 0; k < n; k++) {
            mind.passHour();
            gainOfA += mind.isBare(a) ? 0 : 1;
            gainOfB += mind.isBare(b) ? 0 : 1;
        }
        gainsOfA[pair] = gainOfA;
        gainsOfB[pair] = gainOfB;
    }

    /** How many of t to the n equal chances have gusts in just the hours told by bits, if he wears a hat then. */
    private long weightIfCovered(int person, int n, int t, int gusty) {
        long weight = 1;
        think(0);
        for (int k = 0; k < n; k++) {
            // No hour comes twice within so few, so a gust can stand in the winds in mind.
            if ((gusty >> k & 1) == 1) {
                mind.wind[mind.hour] = Math.min(MOST_WIND, mind.wind[mind.hour] + GUST);
            } else {
                weight *= t - 1;
            }
            mind.passHour();
        }
        return mind.isBare(person) ? 0 : weight;
    }

    private static long inLeastTerms(long above, long below, int part) {
        long divisor = greatestDivisor(above, below);
        if (divisor == 0) {
            return 0;
        }
        return (part == 0 ? above : below) / divisor;
    }

    private static long greatestDivisor(long a, long b) {
        long greater = a;
        long smaller = b;
        // Euclid's way takes fewer than 93 steps for any two longs.
        for (int k = 0; k < 100 && smaller != 0; k++) {
            long rest = greater % smaller;
            greater = smaller;
            smaller = rest;
        }
        return greater;
    }

    private int drawWinds(int seed) {
        int z = seed;
        for (int hour = 0; hour < HOURS; hour++) {
            z = z * 1103515245 + 12345;
            mind.wind[hour] = (z & ALL_BUT_THE_SIGN) / 65536 % 10;
        }
        return z;
    }

    private static int failureCaught(int kind, int figure) {
        try {
            Kinds.fail(kind, figure);
        } catch (UnsupportedOperationException aunts) {
            return 200 + Kinds.worth(kind, figure);
        } catch (IllegalArgumentException pinned) {
            return 100 + figure;
        } catch (IllegalStateException plain) {
            return figure;
        }
        return NO_FAILURE;
    }

    /** What hats of each kind hold, fly and are worth; each kind is told by what it is under. */
    private static final class Kinds {
        private static final int PINNED = 1;
        private static final int BOWLER = 2;
        private static final int STRAW = 3;
        private static final int AUNTS = 4;
        private static final int TOPPER = 5;
        private static final int NEST = 6;
        private static final int CAP = 7;

        private static final int HAT_HOLDS = 3;
        private static final int HAT_WORTH = 2;
        private static final int PINNED_WORTH = HAT_WORTH + 1;

        private Kinds() {
        }

        static int holds(int kind, int figure) {
            int pinnedHolds = HAT_HOLDS + figure;
            int bowlerHolds = HAT_HOLDS + figure / 2;
            switch (kind) {
                case PINNED:
                    return pinnedHolds;
                case BOWLER:
                    return bowlerHolds;
                case STRAW:
                    return HAT_HOLDS - 1;
                case AUNTS:
                    return pinnedHolds + 2;
                case TOPPER:
                    return bowlerHolds - 2;
                case NEST:
                    return 0;
                case CAP:
                    return figure;
                default:
                    return HAT_HOLDS;
            }
        }

        static int flies(int kind, int figure, int v) {
            if (v <= 0) {
                return 0;
            }
            int bowlerFlies = v + 1;
            int strawFlies = 2 * v;
            switch (kind) {
                case BOWLER:
                    return bowlerFlies;
                case STRAW:
                    return strawFlies;
                case AUNTS:
                    return v / 2;
                case TOPPER:
                    return bowlerFlies + figure / 3;
                case NEST:
                    return strawFlies - 1;
                case CAP:
                    return v / 3;
                default:
                    return v;
            }
        }

        static int worth(int kind, int figure) {
            int bowlerWorth = 5 + figure;
            switch (kind) {
                case PINNED:
                    return PINNED_WORTH;
                case BOWLER:
                    return bowlerWorth;
                case STRAW:
                    return 1;
                case AUNTS:
                    return 2 * PINNED_WORTH;
                case TOPPER:
                    return bowlerWorth + 9;
                case NEST:
                    return figure;
                default:
                    return HAT_WORTH;
            }
        }

        static void fail(int kind, int figure) {
            if (kind == STRAW || kind == NEST || figure == 0) {
                return;
            }
            if (kind == AUNTS) {
                throw new UnsupportedOperationException("an aunt's hat");
            }
            if (kind == PINNED) {
                throw new IllegalArgumentException("a pinned hat");
            }
            throw new IllegalStateException("a hat");
        }
    }

    /** All that THE IMAGE keeps: the winds, the lee, people, hats and the clock. */
    private static final class Street {
        final int[] wind = new int[HOURS];
        int lee = 0;
        int hour = FIRST_HOUR;
        int day = 0;

        int people = 0;
        final int[] at = new int[MOST_PEOPLE];
        final int[] pace = new int[MOST_PEOPLE];
        final int[] pins = new int[MOST_PEOPLE];

        int hats = 0;
        final int[] kind = new int[MOST_HATS];
        final int[] figure = new int[MOST_HATS];
        final int[] wearer = new int[MOST_HATS];
        /** Where a hat is that nobody wears; of a worn one its wearer's place counts. */
        final int[] where = new int[MOST_HATS];

        void become(Street other) {
            System.arraycopy(other.wind, 0, wind, 0, HOURS);
            lee = other.lee;
            hour = other.hour;
            day = other.day;
            people = other.people;
            System.arraycopy(other.at, 0, at, 0, MOST_PEOPLE);
            System.arraycopy(other.pace, 0, pace, 0, MOST_PEOPLE);
            System.arraycopy(other.pins, 0, pins, 0, MOST_PEOPLE);
            hats = other.hats;
            System.arraycopy(other.kind, 0, kind, 0, MOST_HATS);
            System.arraycopy(other.figure, 0, figure, 0, MOST_HATS);
            System.arraycopy(other.wearer, 0, wearer, 0, MOST_HATS);
            System.arraycopy(other.where, 0, where, 0, MOST_HATS);
        }

        boolean isPerson(int person) {
            return person >= 0 && person < people;
        }

        boolean isHat(int hat) {
            return hat >= 0 && hat < hats;
        }

        boolean isWorn(int hat) {
            return wearer[hat] != NOBODY;
        }

        boolean isLoose(int hat) {
            return wearer[hat] == NOBODY && where[hat] != LOST_PLACE;
        }

        boolean isLost(int hat) {
            return wearer[hat] == NOBODY && where[hat] == LOST_PLACE;
        }

        int placeOf(int hat) {
            return isPerson(wearer[hat]) ? at[wearer[hat]] : where[hat];
        }

        int hatOf(int person) {
            for (int hat = 0; hat < hats; hat++) {
                if (wearer[hat] == person) {
                    return hat;
                }
            }
            return NOBODY;
        }

        boolean isBare(int person) {
            return hatOf(person) == NOBODY;
        }

        int bareOnes() {
            int bits = 0;
            for (int person = 0; person < people; person++) {
                if (isBare(person)) {
                    bits |= 1 << person;
                }
            }
            return bits;
        }

        int lostOnes() {
            int bits = 0;
            for (int hat = 0; hat < hats; hat++) {
                if (isLost(hat)) {
                    bits |= 1 << hat;
                }
            }
            return bits;
        }

        int worthLeft() {
            int sum = 0;
            for (int hat = 0; hat < hats; hat++) {
                sum += isLost(hat) ? 0 : Kinds.worth(kind[hat], figure[hat]);
            }
            return sum;
        }

        int addPerson(int place, int speed) {
            if (!isPlace(place) || !isWithin(speed, 1, MOST_PACE)) {
                return NO_SUCH;
            }
            if (people >= MOST_PEOPLE) {
                return NO_ROOM;
            }
            at[people] = place;
            pace[people] = speed;
            pins[people] = 0;
            people++;
            return people - 1;
        }

        int addHat(int ofKind, int ofFigure, int person) {
            if (!isKind(ofKind) || !isFigure(ofFigure) || !isPerson(person)) {
                return NO_SUCH;
            }
            if (!isBare(person)) {
                return NOT_SO;
            }
            if (hats >= MOST_HATS) {
                return NO_ROOM;
            }
            kind[hats] = ofKind;
            figure[hats] = ofFigure;
            wearer[hats] = person;
            where[hats] = at[person];
            hats++;
            return hats - 1;
        }

        int setWind(int ofHour, int v) {
            if (!isHour(ofHour) || !isWithin(v, 0, MOST_WIND)) {
                return NO_SUCH;
            }
            int before = wind[ofHour];
            wind[ofHour] = v;
            return before;
        }

        int turnLee(int place) {
            if (!isPlace(place)) {
                return NO_SUCH;
            }
            lee ^= 1 << place;
            return lee >> place & 1;
        }

        int setPins(int person, int v) {
            if (!isPerson(person) || !isWithin(v, 0, MOST_PINS)) {
                return NO_SUCH;
            }
            int before = pins[person];
            pins[person] = v;
            return before;
        }

        /** One who stays where he is has no pace. */
        void holdOn(int person, int choice) {
            if (choice == 1) {
                pins[person] = MOST_PINS;
                pace[person] = 0;
            }
        }

        void giveHat(int hat, int person) {
            int own = hatOf(person);
            if (isHat(own)) {
                wearer[own] = NOBODY;
                where[own] = at[person];
            }
            wearer[hat] = person;
        }

        int passToldHours(int n) {
            if (!isWithin(n, 1, MOST_HOURS_AT_ONCE)) {
                return NO_SUCH;
            }
            if (day + (hour + n) / HOURS > LAST_DAY) {
                return NOT_SO;
            }
            for (int k = 0; k < n; k++) {
                passHour();
            }
            return Integer.bitCount(bareOnes());
        }

        void passHours(int n) {
            for (int k = 0; k < n; k++) {
                passHour();
            }
        }

        void passHour() {
            for (int hat = 0; hat < hats; hat++) {
                blowOff(hat);
            }
            for (int hat = 0; hat < hats; hat++) {
                if (isLoose(hat)) {
                    where[hat] = landing(hat, where[hat]);
                }
            }
            for (int person = 0; person < people; person++) {
                if (isBare(person)) {
                    chase(person, nearestLoose(at[person]));
                }
            }
            passClock();
        }

        void passClock() {
            hour++;
            if (hour >= HOURS) {
                hour = 0;
                day++;
            }
        }

        private int windAt(int place) {
            boolean calm = place < 0 || place >= PLACES || (lee >> place & 1) == 1;
            return calm ? 0 : wind[hour];
        }

        private void blowOff(int hat) {
            int person = wearer[hat];
            if (isPerson(person) && windAt(at[person]) > Kinds.holds(kind[hat], figure[hat]) + pins[person]) {
                wearer[hat] = NOBODY;
                where[hat] = at[person];
            }
        }

        /** Where the hat is behind this hour if it lies loose at a place (or is lost already). */
        int landing(int hat, int from) {
            int to = from + Kinds.flies(kind[hat], figure[hat], windAt(from));
            return Math.min(to, LOST_PLACE);
        }

        private void chase(int person, int goal) {
            if (!isHat(goal)) {
                return;
            }
            int way = where[goal] - at[person];
            at[person] += Math.max(-pace[person], Math.min(pace[person], way));
            // Of several at one place the goal is the least already.
            if (at[person] == where[goal]) {
                wearer[goal] = person;
            }
        }

        private int nearestLoose(int place) {
            int nearest = NONE;
            int least = PLACES;
            for (int hat = 0; hat < hats; hat++) {
                int distance = Math.abs(where[hat] - place);
                if (isLoose(hat) && distance < least) {
                    nearest = hat;
                    least = distance;
                }
            }
            return nearest;
        }
    }

    /** THE TEXT of a street: letters with a set number of digits behind, each ended by a semicolon. */
    private static final class Text {
        static final int NO_FAULT = -1;
        private static final int LETTER_DUE = -1;

        private Text() {
        }

        private static int digitsBehind(int letter) {
            switch (letter) {
                case 'p':
                case 'h':
                case 'w':
                    return 3;
                case 'l':
                case 'i':
                case 't':
                    return 2;
                default:
                    return 0;
            }
        }

        static int firstWrongByte(Shelf text) {
            int due = LETTER_DUE;
            for (int place = 0; place < text.size; place++) {
                int sign = text.elements[place];
                if (due == LETTER_DUE) {
                    due = digitsBehind(sign);
                    if (due == 0) {
                        return place;
                    }
                } else if (due > 0) {
                    if (sign < '0' || sign > '9') {
                        return place;
                    }
                    due--;
                } else {
                    if (sign != ';') {
                        return place;
                    }
                    due = LETTER_DUE;
                }
            }
            return due == LETTER_DUE && text.size > 0 ? NO_FAULT : text.size;
        }

        static int statements(Shelf text) {
            int ended = 0;
            for (int place = 0; place < text.size; place++) {
                if (text.elements[place] == ';') {
                    ended++;
                }
            }
            return ended;
        }

        static int firstWrongStatement(Shelf text, Street street) {
            for (int place = 0; place < text.size; place += digitsBehind(text.elements[place]) + 2) {
                if (!isDone(text, place, street)) {
                    return place;
                }
            }
            return NO_FAULT;
        }

        private static boolean isDone(Shelf text, int place, Street street) {
            int first = digit(text, place + 1);
            int second = digit(text, place + 2);
            int third = digit(text, place + 3);
            int pair = 10 * first + second;
            switch (text.elements[place]) {
                case 'p':
                    return street.addPerson(pair, third) >= 0;
                case 'h':
                    return street.addHat(first, second, third) >= 0;
                case 'w':
                    return street.setWind(pair, third) >= 0;
                case 'l':
                    return street.turnLee(pair) >= 0;
                case 'i':
                    return street.setPins(first, second) >= 0;
                case 't':
                    return street.passToldHours(pair) >= 0;
                default:
                    return false;
            }
        }

        private static int digit(Shelf text, int place) {
            return text.isElement(place) ? text.elements[place] - '0' : 0;
        }
    }

    /** One place on the shelves: nothing, a kind of hat with its figure, or a row. */
    private static final class Shelf {
        static final int NOTHING = 0;
        static final int A_HAT = 1;
        static final int A_ROW = 2;
        private static final int LEAST_BYTE = -128;
        private static final int LEAST_SHORT = -32768;
        private static final int LEAST_INT = -2147483648;

        int holding = NOTHING;
        int kind = 0;
        int figure = 0;
        int sort = 0;
        int size = 0;
        /** Made once and used for every row that comes here. */
        final int[] elements = new int[MOST_ELEMENTS];

        void clear() {
            holding = NOTHING;
        }

        void takeHat(int ofKind, int ofFigure) {
            holding = A_HAT;
            kind = ofKind;
            figure = ofFigure;
        }

        void takeRow(int ofSort, int n) {
            holding = A_ROW;
            sort = ofSort;
            size = n;
            for (int i = 0; i < MOST_ELEMENTS; i++) {
                elements[i] = 0;
            }
        }

        boolean isElement(int i) {
            return i >= 0 && i < size;
        }

        boolean isStretch(int i, int n) {
            return n >= 0 && i >= 0 && i <= size - n;
        }

        int lowestBits(int v) {
            if (sort == BYTES) {
                return (byte) v;
            }
            return sort == SHORTS ? (short) v : v;
        }

        private int leastNumber() {
            if (sort == BYTES) {
                return LEAST_BYTE;
            }
            return sort == SHORTS ? LEAST_SHORT : LEAST_INT;
        }

        boolean isSkipped(int i) {
            return elements[i] == leastNumber();
        }

        boolean isAllWithin(int least, int most) {
            for (int i = 0; i < size; i++) {
                if (!isWithin(elements[i], least, most)) {
                    return false;
                }
            }
            return true;
        }

        int nearestTo(int v) {
            int nearest = 0;
            for (int i = 1; i < size; i++) {
                if (Math.abs(elements[i] - v) < Math.abs(elements[nearest] - v)) {
                    nearest = i;
                }
            }
            return nearest;
        }
    }
}
