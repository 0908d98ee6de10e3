import java.math.BigInteger;
import java.util.ArrayList;
import java.util.List;
import java.util.TreeSet;

/**
 * The document once more, written for plainness alone and from its words, not from the class:
 * a world is copied for each thought, and each kind asks the one it is under.
 */
final class Oracle {
    static final class Hat {
        int kind;
        int figure;
        Person wearer;
        int place;

        int under() {
            return new int[] {-1, 0, 0, 0, 1, 2, 3, 0}[kind];
        }

        Hat as(int otherKind) {
            Hat hat = new Hat();
            hat.kind = otherKind;
            hat.figure = figure;
            return hat;
        }

        int holds() {
            switch (kind) {
                case 0: return 3;
                case 1: return as(under()).holds() + figure;
                case 2: return as(under()).holds() + figure / 2;
                case 3: return as(under()).holds() - 1;
                case 4: return as(under()).holds() + 2;
                case 5: return as(under()).holds() - 2;
                case 6: return 0;
                default: return figure;
            }
        }

        int flies(int v) {
            switch (kind) {
                case 0: return v;
                case 2: return as(under()).flies(v) + (v > 0 ? 1 : 0);
                case 3: return 2 * v;
                case 4: return as(under()).flies(v) / 2;
                case 5: return as(under()).flies(v) + (v > 0 ? figure / 3 : 0);
                case 6: return Math.max(0, as(under()).flies(v) - 1);
                case 7: return v / 3;
                default: return as(under()).flies(v);
            }
        }

        int worth() {
            switch (kind) {
                case 0: return 2;
                case 1: return as(under()).worth() + 1;
                case 2: return 5 + figure;
                case 3: return 1;
                case 4: return as(under()).worth() * 2;
                case 5: return as(under()).worth() + 9;
                case 6: return figure;
                default: return as(under()).worth();
            }
        }

        int where() {
            return wearer == null ? place : wearer.at;
        }

        boolean loose() {
            return wearer == null && place <= 20;
        }

        boolean lost() {
            return wearer == null && place > 20;
        }
    }

    static final class Person {
        int at;
        int pace;
        int pins;
        boolean holdsOn;
    }

    static final class World {
        int[] wind = new int[24];
        TreeSet<Integer> lee = new TreeSet<>();
        List<Person> people = new ArrayList<>();
        List<Hat> hats = new ArrayList<>();
        int hour = 9;
        int day = 0;
        int gust = 0;

        World again() {
            World w = new World();
            w.wind = wind.clone();
            w.lee.addAll(lee);
            w.hour = hour;
            w.day = day;
            for (Person p : people) {
                Person q = new Person();
                q.at = p.at;
                q.pace = p.pace;
                q.pins = p.pins;
                w.people.add(q);
            }
            for (Hat h : hats) {
                Hat g = h.as(h.kind);
                g.place = h.place;
                g.wearer = h.wearer == null ? null : w.people.get(people.indexOf(h.wearer));
                w.hats.add(g);
            }
            return w;
        }

        World on(int n) {
            World w = again();
            for (int k = 0; k < n; k++) {
                w.anHour();
            }
            return w;
        }

        Hat hatOf(Person p) {
            for (Hat h : hats) {
                if (h.wearer == p) {
                    return h;
                }
            }
            return null;
        }

        int blowing(int place) {
            return lee.contains(place) ? 0 : Math.min(9, wind[hour] + gust);
        }

        void anHour() {
            for (Hat h : hats) {
                if (h.wearer != null && blowing(h.wearer.at) > h.holds() + h.wearer.pins) {
                    h.place = h.wearer.at;
                    h.wearer = null;
                }
            }
            for (Hat h : hats) {
                if (h.loose()) {
                    h.place += h.flies(blowing(h.place));
                }
            }
            for (Person p : people) {
                if (hatOf(p) == null) {
                    run(p);
                }
            }
            hour++;
            if (hour == 24) {
                hour = 0;
                day++;
            }
        }

        private void run(Person p) {
            Hat goal = null;
            for (Hat h : hats) {
                if (h.loose() && (goal == null || Math.abs(h.place - p.at) < Math.abs(goal.place - p.at))) {
                    goal = h;
                }
            }
            for (int step = 0; goal != null && !p.holdsOn && step < p.pace; step++) {
                p.at += Integer.signum(goal.place - p.at);
            }
            for (Hat h : hats) {
                if (h.loose() && h.place == p.at) {
                    h.wearer = p;
                    return;
                }
            }
        }

        int bareBits() {
            int bits = 0;
            for (int i = 0; i < people.size(); i++) {
                bits |= hatOf(people.get(i)) == null ? 1 << i : 0;
            }
            return bits;
        }

        int bare() {
            return Integer.bitCount(bareBits());
        }

        int lostCount() {
            int count = 0;
            for (Hat h : hats) {
                count += h.lost() ? 1 : 0;
            }
            return count;
        }

        int placeOf(int hat) {
            return Math.min(21, hats.get(hat).where());
        }

        int wearerOf(int hat) {
            Person p = hats.get(hat).wearer;
            return p == null ? 9 : people.indexOf(p);
        }

        boolean wearsOne(int person) {
            return hatOf(people.get(person)) != null;
        }
    }

    /** What a shelf holds: a Hat, a Row or null. */
    static final class Row {
        int sort;
        int[] elements;

        boolean skipped(int i) {
            return elements[i] == new int[] {Byte.MIN_VALUE, Short.MIN_VALUE, Integer.MIN_VALUE}[sort];
        }
    }

    private World now = new World();
    private World kept = null;
    private final Object[] shelves = new Object[8];

    private boolean noHat(int hat) {
        return hat < 0 || hat >= now.hats.size();
    }

    private boolean nobody(int person) {
        return person < 0 || person >= now.people.size();
    }

    private static boolean out(int v, int least, int most) {
        return v < least || v > most;
    }

    private int rowRefusal(int d) {
        return shelves[d] == null ? -11 : shelves[d] instanceof Row ? 0 : -12;
    }

    private int hatRefusal(int d) {
        return shelves[d] == null ? -11 : shelves[d] instanceof Hat ? 0 : -12;
    }

    public int street(int d) {
        if (out(d, 0, 7)) {
            return -1;
        }
        if (rowRefusal(d) != 0) {
            return rowRefusal(d);
        }
        Row row = (Row) shelves[d];
        if (row.sort != 0) {
            return -12;
        }
        StringBuilder text = new StringBuilder();
        for (int e : row.elements) {
            text.append((char) (e & 255));
        }
        String statement = "([phw][0-9]{3};|[lit][0-9]{2};)";
        if (!text.toString().matches(statement + "+")) {
            return -1000 - longestBeginning(text.toString());
        }
        World w = now.again();
        int place = 0;
        int count = 0;
        for (String s : text.toString().split(";")) {
            if (!statementDone(w, s)) {
                return -2000 - place;
            }
            place += s.length() + 1;
            count++;
        }
        now = w;
        return count;
    }

    private static int longestBeginning(String text) {
        String whole = "([phw][0-9]{3};|[lit][0-9]{2};)*";
        String part = "([phw][0-9]{0,3}|[lit][0-9]{0,2})?";
        int longest = 0;
        for (int n = 0; n <= text.length(); n++) {
            if (text.substring(0, n).matches(whole + part)) {
                longest = n;
            }
        }
        return longest;
    }

    private static boolean statementDone(World w, String s) {
        int all = Integer.parseInt(s.substring(1));
        switch (s.charAt(0)) {
            case 'p':
                if (all / 10 > 20 || all % 10 < 1 || all % 10 > 5 || w.people.size() == 6) {
                    return false;
                }
                Person p = new Person();
                p.at = all / 10;
                p.pace = all % 10;
                w.people.add(p);
                return true;
            case 'h':
                if (all / 100 > 7 || all % 10 >= w.people.size() || w.hats.size() == 8 || w.wearsOne(all % 10)) {
                    return false;
                }
                Hat h = new Hat();
                h.kind = all / 100;
                h.figure = all / 10 % 10;
                h.wearer = w.people.get(all % 10);
                w.hats.add(h);
                return true;
            case 'w':
                if (all / 10 > 23) {
                    return false;
                }
                w.wind[all / 10] = all % 10;
                return true;
            case 'l':
                if (all > 20) {
                    return false;
                }
                if (!w.lee.remove(all)) {
                    w.lee.add(all);
                }
                return true;
            case 'i':
                if (all / 10 >= w.people.size()) {
                    return false;
                }
                w.people.get(all / 10).pins = all % 10;
                return true;
            default:
                if (all < 1 || all > 60 || w.day * 24 + w.hour + all > 999 * 24 + 23) {
                    return false;
                }
                for (int k = 0; k < all; k++) {
                    w.anHour();
                }
                return true;
        }
    }

    public int hat(int hat, int what) {
        if (noHat(hat) || out(what, 0, 5)) {
            return -1;
        }
        Hat h = now.hats.get(hat);
        return new int[] {h.kind, h.figure, now.wearerOf(hat), now.placeOf(hat), h.holds(), h.worth()}[what];
    }

    public int person(int person, int what) {
        if (nobody(person) || out(what, 0, 3)) {
            return -1;
        }
        Person p = now.people.get(person);
        Hat h = now.hatOf(p);
        return new int[] {p.at, p.pace, p.pins, h == null ? 9 : now.hats.indexOf(h)}[what];
    }

    public int wind(int hour) {
        return out(hour, 0, 23) ? -1 : now.wind[hour];
    }

    public int comes(int place, int pace) {
        if (out(place, 0, 20) || out(pace, 1, 5)) {
            return -1;
        }
        if (now.people.size() == 6) {
            return -2;
        }
        Person p = new Person();
        p.at = place;
        p.pace = pace;
        now.people.add(p);
        return now.people.size() - 1;
    }

    public int wears(int d, int person) {
        if (out(d, 0, 7) || nobody(person)) {
            return -1;
        }
        if (hatRefusal(d) != 0) {
            return hatRefusal(d);
        }
        if (now.wearsOne(person)) {
            return -3;
        }
        if (now.hats.size() == 8) {
            return -2;
        }
        Hat onShelf = (Hat) shelves[d];
        Hat h = onShelf.as(onShelf.kind);
        h.wearer = now.people.get(person);
        now.hats.add(h);
        return now.hats.size() - 1;
    }

    public int blows(int hour, int v) {
        if (out(hour, 0, 23) || out(v, 0, 9)) {
            return -1;
        }
        int before = now.wind[hour];
        now.wind[hour] = v;
        return before;
    }

    public int shelters(int place) {
        if (out(place, 0, 20)) {
            return -1;
        }
        if (now.lee.remove(place)) {
            return 0;
        }
        now.lee.add(place);
        return 1;
    }

    public int pins(int person, int v) {
        if (nobody(person) || out(v, 0, 9)) {
            return -1;
        }
        int before = now.people.get(person).pins;
        now.people.get(person).pins = v;
        return before;
    }

    public int moves(int person, int place) {
        if (nobody(person) || out(place, 0, 20)) {
            return -1;
        }
        int before = now.people.get(person).at;
        now.people.get(person).at = place;
        return before;
    }

    public int hours(int n) {
        if (out(n, 1, 60)) {
            return -1;
        }
        World w = now.on(n);
        if (w.day > 999) {
            return -3;
        }
        now = w;
        return w.bare();
    }

    public int hatThen(int hat, int n, int what) {
        if (noHat(hat) || out(n, 0, 99) || out(what, 0, 1)) {
            return -1;
        }
        World w = now.on(n);
        return what == 0 ? w.placeOf(hat) : w.wearerOf(hat);
    }

    public int personThen(int person, int n) {
        return nobody(person) || out(n, 0, 99) ? -1 : now.on(n).people.get(person).at;
    }

    public int then(int n, int what) {
        if (out(n, 0, 99) || out(what, 0, 2)) {
            return -1;
        }
        World w = now.on(n);
        int worth = 0;
        for (Hat h : w.hats) {
            worth += h.lost() ? 0 : h.worth();
        }
        return new int[] {w.bareBits(), w.lostCount(), worth}[what];
    }

    private int firstTaken(World from, int hat, int within) {
        int him = from.wearerOf(hat);
        for (int n = 1; n <= within; n++) {
            if (from.on(n).wearerOf(hat) != him) {
                return n;
            }
        }
        return -4;
    }

    public int taken(int hat) {
        if (noHat(hat)) {
            return -1;
        }
        return now.hats.get(hat).wearer == null ? -3 : firstTaken(now, hat, 99);
    }

    public int caught(int person) {
        if (nobody(person)) {
            return -1;
        }
        for (int n = 0; n <= 99; n++) {
            if (now.on(n).wearsOne(person)) {
                return n;
            }
        }
        return -4;
    }

    public int back(int person, int hat) {
        if (nobody(person) || noHat(hat)) {
            return -1;
        }
        for (int n = 0; n <= 99; n++) {
            if (now.on(n).wearerOf(hat) == person) {
                return n;
            }
        }
        return -4;
    }

    public int lost(int hat) {
        if (noHat(hat)) {
            return -1;
        }
        for (int n = 0; n <= 99; n++) {
            if (now.on(n).hats.get(hat).lost()) {
                return n;
            }
        }
        return -4;
    }

    public int allWear(int n) {
        if (out(n, 0, 99)) {
            return -1;
        }
        int count = 0;
        for (int k = 1; k <= n; k++) {
            count += now.on(k).bare() == 0 ? 1 : 0;
        }
        return count;
    }

    public int stand(int person, int n, int what) {
        if (nobody(person) || out(n, 0, 99) || out(what, 0, 1)) {
            return -1;
        }
        int[] counts = new int[21];
        int best = 0;
        for (int place = 20; place >= 0; place--) {
            World w = now.again();
            w.people.get(person).at = place;
            for (int k = 0; k < n; k++) {
                w.anHour();
                counts[place] += w.wearsOne(person) ? 1 : 0;
            }
            best = counts[place] >= counts[best] || place == 20 ? place : best;
        }
        return what == 0 ? best : counts[best];
    }

    public int wear(int person, int n) {
        if (nobody(person) || out(n, 0, 99)) {
            return -1;
        }
        int best = -4;
        int most = -1;
        for (int hat = now.hats.size() - 1; hat >= 0; hat--) {
            if (now.hats.get(hat).lost()) {
                continue;
            }
            World w = now.again();
            Person him = w.people.get(person);
            Hat his = w.hatOf(him);
            if (his != null) {
                his.wearer = null;
                his.place = him.at;
            }
            w.hats.get(hat).wearer = him;
            int count = 0;
            for (int k = 0; k < n; k++) {
                w.anHour();
                count += w.hats.get(hat).wearer == him ? 1 : 0;
            }
            if (count >= most) {
                most = count;
                best = hat;
            }
        }
        return best;
    }

    public int calm(int what) {
        if (out(what, 0, 2)) {
            return -1;
        }
        int calmest = 0;
        int least = 99;
        int gale = 0;
        for (int h = 0; h < 24; h++) {
            int three = now.wind[h] + now.wind[(h + 1) % 24] + now.wind[(h + 2) % 24];
            if (three < least) {
                least = three;
                calmest = h;
            }
            gale = now.wind[h] > now.wind[gale] ? h : gale;
        }
        return new int[] {calmest, least, gale}[what];
    }

    public int fewestPins(int person, int n) {
        if (nobody(person) || out(n, 1, 99)) {
            return -1;
        }
        for (int pins = 0; pins <= 9 && now.wearsOne(person); pins++) {
            World w = now.again();
            w.people.get(person).pins = pins;
            if (firstTaken(w, w.hats.indexOf(w.hatOf(w.people.get(person))), n) == -4) {
                return pins;
            }
        }
        return -4;
    }

    public int shut(int n) {
        if (out(n, 0, 99)) {
            return -1;
        }
        int fewest = now.on(n).lostCount();
        int best = -4;
        for (int place = 0; place <= 20; place++) {
            World w = now.again();
            w.lee.add(place);
            int lost = w.on(n).lostCount();
            if (lost < fewest) {
                fewest = lost;
                best = place;
            }
        }
        return best;
    }

    public int bestSale(int n) {
        if (out(n, 0, 99)) {
            return -1;
        }
        World w = now.on(n);
        int best = -4;
        for (int hat = 0; hat < w.hats.size(); hat++) {
            if (!w.hats.get(hat).lost() && (best < 0 || w.hats.get(hat).worth() > w.hats.get(best).worth())) {
                best = hat;
            }
        }
        return best;
    }

    public int race() {
        int best = -4;
        int first = 100;
        for (int person = 0; person < now.people.size(); person++) {
            int n = caught(person);
            if (!now.wearsOne(person) && n >= 0 && n < first) {
                best = person;
                first = n;
            }
        }
        return best;
    }

    public int swaps(int n) {
        if (out(n, 0, 99)) {
            return -1;
        }
        World w = now.on(n);
        int count = 0;
        for (int hat = 0; hat < now.hats.size(); hat++) {
            int a = now.wearerOf(hat);
            int b = w.wearerOf(hat);
            count += a != 9 && b != 9 && a != b ? 1 : 0;
        }
        return count;
    }

    public int whatIs(int d, int hat, int what) {
        if (out(d, 0, 7) || noHat(hat) || out(what, 0, 2)) {
            return -1;
        }
        if (rowRefusal(d) != 0) {
            return rowRefusal(d);
        }
        Row row = (Row) shelves[d];
        int bits = 0;
        for (int guess = 0; guess < (what == 1 ? 8 : 10); guess++) {
            World w = now.again();
            if (what == 0) {
                w.wind[w.hour] = guess;
            } else if (what == 1) {
                w.hats.get(hat).kind = guess;
            } else {
                w.hats.get(hat).figure = guess;
            }
            boolean so = true;
            for (int i = 0; i < row.elements.length; i++) {
                so &= row.skipped(i) || row.elements[i] == w.on(i).placeOf(hat);
            }
            bits |= so ? 1 << guess : 0;
        }
        return bits;
    }

    private int[] gains(int a, int b, int n, int holdA, int holdB) {
        World w = now.again();
        int[] who = {a, b};
        int[] hold = {holdA, holdB};
        int[] gain = new int[2];
        for (int i = 0; i < 2; i++) {
            if (hold[i] == 1) {
                w.people.get(who[i]).pins = 9;
                w.people.get(who[i]).holdsOn = true;
                gain[i] -= n / 3;
            }
        }
        for (int k = 0; k < n; k++) {
            w.anHour();
            for (int i = 0; i < 2; i++) {
                gain[i] += w.wearsOne(who[i]) ? 1 : 0;
            }
        }
        return gain;
    }

    public int two(int a, int b, int n) {
        if (nobody(a) || nobody(b) || a == b || out(n, 1, 24)) {
            return -1;
        }
        for (int x = 0; x < 2; x++) {
            for (int y = 0; y < 2; y++) {
                int[] g = gains(a, b, n, x, y);
                if (gains(a, b, n, 1 - x, y)[0] <= g[0] && gains(a, b, n, x, 1 - y)[1] <= g[1]) {
                    return 10 * x + y;
                }
            }
        }
        return -4;
    }

    private long ways(World w, int person, int n, int t) {
        if (n == 0) {
            return w.wearsOne(person) ? 1 : 0;
        }
        World gusty = w.again();
        gusty.gust = 3;
        gusty.anHour();
        return ways(gusty, person, n - 1, t) + (t - 1) * ways(w.on(1), person, n - 1, t);
    }

    private static long part(long above, long below, int part) {
        long divisor = BigInteger.valueOf(above).gcd(BigInteger.valueOf(below)).longValue();
        return (part == 0 ? above : below) / divisor;
    }

    public long gusts(int person, int n, int t, int part) {
        if (nobody(person) || out(n, 0, 7) || out(t, 2, 20) || out(part, 0, 1)) {
            return 1000000001L;
        }
        long below = 1;
        for (int k = 0; k < n; k++) {
            below *= t;
        }
        return part(ways(now.again(), person, n, t), below, part);
    }

    public long mean(int part) {
        if (out(part, 0, 1)) {
            return 1000000001L;
        }
        int sum = 0;
        for (int v : now.wind) {
            sum += v;
        }
        return part(sum, 24, part);
    }

    public int wager(int d, int hat) {
        if (out(d, 0, 7) || noHat(hat)) {
            return -1;
        }
        if (rowRefusal(d) != 0) {
            return rowRefusal(d);
        }
        if (now.wearerOf(hat) == 9) {
            return -3;
        }
        int[] bets = ((Row) shelves[d]).elements;
        int nearest = -13;
        int taken = taken(hat);
        for (int i = bets.length - 1; i >= 0; i--) {
            if (out(bets[i], 1, 99)) {
                return -13;
            }
            if (nearest < 0 || Math.abs(bets[i] - taken) <= Math.abs(bets[nearest] - taken)) {
                nearest = i;
            }
        }
        return nearest >= 0 && taken == -4 ? -4 : nearest;
    }

    public int forged(int d, int hat) {
        if (out(d, 0, 7) || noHat(hat)) {
            return -1;
        }
        if (rowRefusal(d) != 0) {
            return rowRefusal(d);
        }
        int[] told = ((Row) shelves[d]).elements;
        for (int i = 0; i < told.length; i++) {
            if (i == 0) {
                if (out(told[0], 0, 21)) {
                    return 0;
                }
                continue;
            }
            int ahead = told[i - 1];
            int v = now.lee.contains(ahead) ? 0 : now.wind[(now.hour + i - 1) % 24];
            int due = ahead == 21 ? 21 : Math.min(21, ahead + now.hats.get(hat).flies(v));
            if (told[i] != due) {
                return i;
            }
        }
        return -4;
    }

    public int judge(int d) {
        if (out(d, 0, 7)) {
            return -1;
        }
        if (rowRefusal(d) != 0) {
            return rowRefusal(d);
        }
        Row row = (Row) shelves[d];
        for (int i = 0; i < row.elements.length; i++) {
            if (!row.skipped(i) && row.elements[i] != now.on(i).bare()) {
                return i;
            }
        }
        return -4;
    }

    public int thursdays(int n, int z, int what) {
        if (out(n, 1, 20) || out(what, 0, 1)) {
            return -1;
        }
        int lost = 0;
        int bare = 0;
        for (int k = 0; k < n; k++) {
            World w = now.again();
            for (int h = 0; h < 24; h++) {
                z = (int) (z * 1103515245L + 12345L);
                w.wind[h] = (z << 1 >>> 17) % 10;
            }
            w = w.on(24);
            lost += w.lostCount() - now.lostCount();
            bare |= w.bareBits();
        }
        return what == 0 ? lost : bare;
    }

    public int image() {
        kept = now.again();
        return now.day;
    }

    public int restore() {
        if (kept == null) {
            return -3;
        }
        now = kept.again();
        return now.day;
    }

    public int count(int what) {
        if (out(what, 0, 6)) {
            return -1;
        }
        int lost = 0;
        for (int hat = 0; hat < now.hats.size(); hat++) {
            lost |= now.hats.get(hat).lost() ? 1 << hat : 0;
        }
        int lee = 0;
        for (int place : now.lee) {
            lee |= 1 << place;
        }
        return new int[] {now.people.size(), now.hats.size(), now.hour, now.day, now.bareBits(), lost, lee}[what];
    }

    public int keep(int d, int what, int k, int figure) {
        if (out(d, 0, 7) || out(what, 0, 1) || what == 1 && (out(k, 0, 7) || out(figure, 0, 9))) {
            return -1;
        }
        Hat h = new Hat();
        h.kind = k;
        h.figure = figure;
        shelves[d] = what == 0 ? null : h;
        return 0;
    }

    public int row(int d, int sort, int n) {
        if (out(d, 0, 7) || out(sort, 0, 2) || n > 100) {
            return -1;
        }
        if (n < 0) {
            return -14;
        }
        Row row = new Row();
        row.sort = sort;
        row.elements = new int[n];
        shelves[d] = row;
        return 0;
    }

    public int put(int d, int i, int v) {
        if (out(d, 0, 7)) {
            return -1;
        }
        if (rowRefusal(d) != 0) {
            return rowRefusal(d);
        }
        Row row = (Row) shelves[d];
        if (out(i, 0, row.elements.length - 1)) {
            return -13;
        }
        row.elements[i] = row.sort == 0 ? (byte) v : row.sort == 1 ? (short) v : v;
        return 0;
    }

    public long element(int d, int i) {
        if (out(d, 0, 7)) {
            throw new IllegalArgumentException();
        }
        if (rowRefusal(d) != 0 || out(i, 0, ((Row) shelves[d]).elements.length - 1)) {
            throw new IllegalStateException();
        }
        return ((Row) shelves[d]).elements[i];
    }

    public int copy(int d, int i, int e, int j, int n) {
        if (out(d, 0, 7) || out(e, 0, 7)) {
            return -1;
        }
        if (shelves[d] == null || shelves[e] == null) {
            return -11;
        }
        if (rowRefusal(d) != 0 || rowRefusal(e) != 0) {
            return -12;
        }
        Row from = (Row) shelves[d];
        Row to = (Row) shelves[e];
        if (from.sort != to.sort) {
            return -12;
        }
        if (n < 0 || i < 0 || j < 0 || (long) i + n > from.elements.length || (long) j + n > to.elements.length) {
            return -13;
        }
        int[] source = from.elements.clone();
        for (int k = 0; k < n; k++) {
            to.elements[j + k] = source[i + k];
        }
        return n;
    }

    public int cost(int d) {
        if (out(d, 0, 7)) {
            return -1;
        }
        return hatRefusal(d) != 0 ? hatRefusal(d) : ((Hat) shelves[d]).worth();
    }

    public int toss(int d) {
        if (out(d, 0, 7)) {
            return -1;
        }
        if (hatRefusal(d) != 0) {
            return hatRefusal(d);
        }
        Hat h = (Hat) shelves[d];
        if (h.kind == 3 || h.kind == 6 || h.figure == 0) {
            return -15;
        }
        return h.kind == 4 ? 200 + h.worth() : h.kind == 1 ? 100 + h.figure : h.figure;
    }

    // ---- what the random runs take from here, so that told rows are often true

    int[] truePlaces(int hat, int n) {
        int[] places = new int[n];
        for (int i = 0; i < n; i++) {
            places[i] = now.on(i).placeOf(hat);
        }
        return places;
    }

    int[] trueHeads(int n) {
        int[] heads = new int[n];
        for (int i = 0; i < n; i++) {
            heads[i] = now.on(i).bare();
        }
        return heads;
    }

    int[] trueFlight(int hat, int from, int n) {
        int[] flight = new int[n];
        int place = from;
        for (int i = 0; i < n; i++) {
            flight[i] = place;
            int v = now.lee.contains(place) ? 0 : now.wind[(now.hour + i) % 24];
            place = place > 20 ? 21 : Math.min(21, place + now.hats.get(hat).flies(v));
        }
        return flight;
    }

    int hats() {
        return now.hats.size();
    }
}
