import java.math.BigInteger;
import java.util.ArrayList;
import java.util.Arrays;
import java.util.List;
import java.util.function.IntPredicate;
import java.util.stream.IntStream;

/**
 * The document once more, worked out another way: by trying everything (each way to deal, each text that a text
 * could still become), without care for speed or memory. Random runs are held against it.
 */
final class SlowEast {
    static final int UNKNOWN = -1, BAD = -2, LATE = -3, FULL = -4, NONE = -9;

    private static final class Church implements Cloneable {
        int land, line, slip, from, to;
        int saint = NONE, street = NONE, old = NONE;
        int choirLine = NONE, choirFrom = NONE, choirTo = NONE;

        Church copy() {
            try {
                return (Church) clone();
            } catch (CloneNotSupportedException e) {
                throw new IllegalStateException(e);
            }
        }

        int middle() {
            return (from + to) / 2;
        }

        IntStream years() {
            return IntStream.rangeClosed(from, to);
        }
    }

    private final int[][] heights = new int[4][36];
    private int switchYear = 600;
    private int feastDate = 0;
    private String text = "";
    private String book = "";
    private List<Church> all = new ArrayList<>();
    private final List<List<Church>> slots = new ArrayList<>(Arrays.asList(null, null));
    private final int[] weights = {1, 1, 1, 1, 1, 1};

    private static boolean in(int v, int least, int behind) {
        return least <= v && v < behind;
    }

    private Church at(int church) {
        return in(church, 0, all.size()) ? all.get(church) : null;
    }

    // ---- sun, edges, calendars

    private static int apart(int a, int b) {
        return Math.min(Math.floorMod(a - b, 360), Math.floorMod(b - a, 360));
    }

    int off(int a, int b) {
        return in(a, 0, 360) && in(b, 0, 360) ? apart(a, b) : UNKNOWN;
    }

    int sun(int day) {
        if (!in(day, 0, 364)) return UNKNOWN;
        int e = IntStream.of(0, 182, 364).map(d -> Math.abs(d - day)).min().getAsInt();
        int x = (int) Math.floor(40.0 * e / 91 + 1e-9);
        return day <= 182 ? 90 - x : 90 + x;
    }

    int edge(int land, int ten, int height) {
        if (!in(land, 0, 4) || !in(ten, 0, 36)) return UNKNOWN;
        if (!in(height, 0, 10)) return BAD;
        int was = heights[land][ten];
        heights[land][ten] = height;
        return was;
    }

    int rise(int land, int day) {
        if (!in(land, 0, 4) || !in(day, 0, 364)) return UNKNOWN;
        int sun = sun(day);
        return sun + IntStream.range(0, 100).filter(z -> heights[land][(sun + z) / 10] <= z).findFirst().getAsInt();
    }

    int switched(int year) {
        if (!in(year, 0, 601)) return BAD;
        int was = switchYear;
        switchYear = year;
        return was;
    }

    int day(int date, int year) {
        if (!in(date, 0, 364) || !in(year, 0, 600)) return UNKNOWN;
        int day = date;
        if (year < switchYear) {
            for (int y = 120; y <= year; y += 120) day = day == 363 ? 0 : day + 1;
        }
        return day;
    }

    int feast(int date) {
        if (!in(date, 0, 364)) return UNKNOWN;
        int was = feastDate;
        feastDate = date;
        return was;
    }

    // ---- the book

    int write(int n, long v) {
        if (!in(n, 1, 9)) return BAD;
        if (text.length() + n > 48) return FULL;
        BigInteger bytes = new BigInteger(Long.toUnsignedString(v));
        StringBuilder more = new StringBuilder();
        for (int i = 0; i < n; i++) {
            more.insert(0, (char) bytes.mod(BigInteger.valueOf(256)).intValue());
            bytes = bytes.divide(BigInteger.valueOf(256));
        }
        text += more;
        return text.length();
    }

    int wipe() {
        int was = text.length();
        text = "";
        return was;
    }

    /** Whether the text is the beginning of some book, of any length. */
    private static boolean canBegin(String s, int yearAhead) {
        if (s.length() >= 7) {
            String entry = s.substring(0, 6);
            if (!isEntry(entry, yearAhead) || s.charAt(6) != ';') return false;
            return canBegin(s.substring(7), Integer.parseInt(entry.substring(0, 3)));
        }
        for (int year = yearAhead + 1; year < 600; year++) {
            String three = String.valueOf(1000 + year).substring(1);
            if (!three.startsWith(s.substring(0, Math.min(3, s.length())))) continue;
            for (int turn = 0; turn <= 40; turn++) {
                String two = String.valueOf(100 + turn).substring(1);
                if ((three + "+" + two).startsWith(s) || (three + "-" + two).startsWith(s)) return true;
            }
        }
        return false;
    }

    private static boolean isEntry(String s, int yearAhead) {
        if (!s.matches("[0-9]{3}[+-][0-9]{2}")) return false;
        int year = Integer.parseInt(s.substring(0, 3));
        return year > yearAhead && year < 600 && Integer.parseInt(s.substring(4)) <= 40;
    }

    private static boolean isBook(String s) {
        int ahead = -1;
        for (String entry : s.split(";", -1)) {
            if (!isEntry(entry, ahead)) return false;
            ahead = Integer.parseInt(entry.substring(0, 3));
        }
        return true;
    }

    int fault() {
        if (isBook(text)) return NONE;
        for (int end = 1; end <= text.length(); end++) {
            if (!canBegin(text.substring(0, end), -1)) return end - 1;
        }
        return text.length();
    }

    int book() {
        if (!isBook(text)) return LATE;
        book = text;
        return book.split(";").length;
    }

    private int turnIn(int year) {
        if (book.isEmpty()) return 0;
        int[] years = Arrays.stream(book.split(";")).mapToInt(e -> Integer.parseInt(e.substring(0, 3))).toArray();
        int[] turns = Arrays.stream(book.split(";")).mapToInt(e -> Integer.parseInt(e.substring(3))).toArray();
        if (year <= years[0]) return turns[0];
        for (int i = 1; i < years.length; i++) {
            if (year == years[i]) return turns[i];
            if (year < years[i]) {
                int goes = turns[i] - turns[i - 1];
                int part = Math.abs(goes) * (year - years[i - 1]) / (years[i] - years[i - 1]);
                return goes < 0 ? turns[i - 1] - part : turns[i - 1] + part;
            }
        }
        return turns[turns.length - 1];
    }

    int needle(int year) {
        return in(year, 0, 600) ? 100 + turnIn(year) : UNKNOWN;
    }

    // ---- churches

    int church(int land, int line, int slip, int from, int to) {
        if (!in(land, 0, 4) || !in(line, 0, 360) || !in(from, 0, 600) || !in(to, 0, 600)) return UNKNOWN;
        if (!in(slip, 0, 10) || to < from || to > from + 60) return BAD;
        if (all.size() == 10) return FULL;
        Church c = new Church();
        c.land = land;
        c.line = line;
        c.slip = slip;
        c.from = from;
        c.to = to;
        all.add(c);
        return all.size() - 1;
    }

    int tell(int church, int what, int v) {
        Church c = at(church);
        if (c == null) return UNKNOWN;
        if (!in(what, 0, 3)) return BAD;
        if (v != NONE && !in(v, 0, what == 0 ? 364 : 360)) return BAD;
        int was = about(church, 5 + what);
        if (what == 0) c.saint = v;
        if (what == 1) c.street = v;
        if (what == 2) c.old = v;
        return was;
    }

    int about(int church, int what) {
        Church c = at(church);
        if (c == null) return UNKNOWN;
        if (!in(what, 0, 11)) return BAD;
        return List.of(c.land, c.line, c.slip, c.from, c.to, c.saint, c.street, c.old, c.choirLine, c.choirFrom,
                c.choirTo).get(what);
    }

    private int lineOf(int rule, Church c, int year) {
        if (rule == 0) return 90;
        if (rule == 1) return c.saint == NONE ? NONE : rise(c.land, day(c.saint, year));
        if (rule == 2) return 90 + turnIn(year);
        if (rule == 3) return c.street;
        if (rule == 4) return c.old;
        return rise(c.land, day(feastDate, year));
    }

    int line(int rule, int church, int year) {
        if (!in(rule, 0, 6) || at(church) == null || !in(year, 0, 600)) return UNKNOWN;
        return lineOf(rule, at(church), year);
    }

    private boolean hitsIn(int rule, Church c, int year) {
        int line = lineOf(rule, c, year);
        return line != NONE && apart(line, c.line) <= c.slip;
    }

    private int[] hitYears(int rule, Church c) {
        return c.years().filter(y -> hitsIn(rule, c, y)).toArray();
    }

    int hits(int rule, int church) {
        if (!in(rule, 0, 6) || at(church) == null) return UNKNOWN;
        return hitYears(rule, at(church)).length;
    }

    int hit(int rule, int church, int i) {
        if (!in(rule, 0, 6) || at(church) == null) return UNKNOWN;
        int[] years = hitYears(rule, at(church));
        return in(i, 0, years.length) ? years[i] : NONE;
    }

    private boolean explains(int rule, Church c) {
        return hitYears(rule, c).length > 0;
    }

    private int rules(Church c) {
        return IntStream.range(0, 6).filter(r -> explains(r, c)).map(r -> 1 << r).sum();
    }

    int explain(int church) {
        return at(church) == null ? UNKNOWN : rules(at(church));
    }

    /** A fraction's top and bottom in least terms. */
    private static BigInteger[] fraction(long top, long bottom) {
        BigInteger t = BigInteger.valueOf(top);
        BigInteger b = BigInteger.valueOf(bottom);
        BigInteger g = t.gcd(b);
        return new BigInteger[] {t.divide(g), b.divide(g)};
    }

    private static long part(BigInteger[] fraction, boolean upper) {
        return fraction[upper ? 0 : 1].longValueExact();
    }

    private BigInteger[] chanceOf(int rule, Church c) {
        return fraction(hitYears(rule, c).length, c.years().count() * (2 * c.slip + 1));
    }

    long chance(int rule, int church, boolean upper) {
        if (!in(rule, 0, 6) || at(church) == null) return UNKNOWN;
        return part(chanceOf(rule, at(church)), upper);
    }

    int weight(int rule, int v) {
        if (!in(rule, 0, 6)) return UNKNOWN;
        if (!in(v, 0, 10)) return BAD;
        int was = weights[rule];
        weights[rule] = v;
        return was;
    }

    /** Weight times chance, as a fraction's top over one bottom for all rules. */
    private BigInteger share(int rule, Church c, BigInteger bottom) {
        BigInteger[] chance = chanceOf(rule, c);
        return chance[0].multiply(bottom).divide(chance[1]).multiply(BigInteger.valueOf(weights[rule]));
    }

    private BigInteger bottomOf(Church c) {
        BigInteger bottom = BigInteger.ONE;
        for (int rule = 0; rule < 6; rule++) bottom = bottom.multiply(chanceOf(rule, c)[1]);
        return bottom;
    }

    private BigInteger sharesOf(Church c) {
        BigInteger sum = BigInteger.ZERO;
        for (int rule = 0; rule < 6; rule++) sum = sum.add(share(rule, c, bottomOf(c)));
        return sum;
    }

    long odds(int rule, int church, boolean upper) {
        if (!in(rule, 0, 6) || at(church) == null) return UNKNOWN;
        Church c = at(church);
        BigInteger sum = sharesOf(c);
        if (sum.signum() == 0) return LATE;
        BigInteger share = share(rule, c, bottomOf(c));
        BigInteger g = share.gcd(sum);
        return (upper ? share : sum).divide(g).longValueExact();
    }

    int best(int church) {
        Church c = at(church);
        if (c == null) return UNKNOWN;
        if (sharesOf(c).signum() == 0) return LATE;
        int best = 5;
        for (int rule = 4; rule >= 0; rule--) {
            if (share(rule, c, bottomOf(c)).compareTo(share(best, c, bottomOf(c))) >= 0) best = rule;
        }
        return best;
    }

    int fewest() {
        for (int size = 0; size <= 6; size++) {
            for (int set = 0; set < 64; set++) {
                int s = set;
                if (Integer.bitCount(set) == size
                        && all.stream().allMatch(c -> rules(c) == 0 || (rules(c) & s) != 0)) return set;
            }
        }
        throw new IllegalStateException("all six rules always do");
    }

    int look() {
        int most = all.stream().mapToInt(c -> Integer.bitCount(rules(c))).max().orElse(NONE);
        for (int i = 0; i < all.size(); i++) {
            if (Integer.bitCount(rules(all.get(i))) == most) return i;
        }
        return NONE;
    }

    // ---- days, saints, the needle

    int days(int church) {
        if (at(church) == null) return UNKNOWN;
        return (int) IntStream.range(0, 364).filter(d -> on(church, d) == 1).count();
    }

    int on(int church, int day) {
        Church c = at(church);
        if (c == null || !in(day, 0, 364)) return UNKNOWN;
        return apart(rise(c.land, day), c.line) <= c.slip ? 1 : 0;
    }

    int own() {
        return (int) all.stream().filter(c -> c.saint != NONE && explains(1, c)).count();
    }

    private boolean dateHits(Church c, int date, int year) {
        return apart(rise(c.land, day(date, year)), c.line) <= c.slip;
    }

    /** All ways to deal, one by one, counted by own hits. */
    private long[] tally() {
        List<Church> with = all.stream().filter(c -> c.saint != NONE).toList();
        boolean[][] explains = new boolean[with.size()][with.size()];
        for (int i = 0; i < with.size(); i++) {
            for (int j = 0; j < with.size(); j++) {
                Church c = with.get(i);
                int date = with.get(j).saint;
                explains[i][j] = c.years().anyMatch(y -> dateHits(c, date, y));
            }
        }
        long[] tally = new long[11];
        tally(explains, 0, 0, 0, tally);
        return tally;
    }

    private static void tally(boolean[][] explains, int church, int used, int own, long[] tally) {
        if (church == explains.length) {
            tally[own]++;
            return;
        }
        for (int saint = 0; saint < explains.length; saint++) {
            if ((used >> saint & 1) == 1) continue;
            tally(explains, church + 1, used | 1 << saint, own + (explains[church][saint] ? 1 : 0), tally);
        }
    }

    long deals(int k) {
        return in(k, 0, 11) ? tally()[k] : BAD;
    }

    long dealt(boolean upper) {
        long[] tally = tally();
        long asMany = Arrays.stream(tally, own(), 11).sum();
        return part(fraction(asMany, Arrays.stream(tally).sum()), upper);
    }

    private int goesWith(List<Integer> lines) {
        int goes = 0;
        for (int i = 0; i < all.size(); i++) {
            for (int j = i + 1; j < all.size(); j++) {
                int needle = turnIn(all.get(j).middle()) - turnIn(all.get(i).middle());
                int line = lessEast(lines.get(j)) - lessEast(lines.get(i));
                goes += Integer.signum(needle * line);
            }
        }
        return goes;
    }

    private static int lessEast(int line) {
        int less = line - 90;
        while (less < -179) less += 360;
        while (less > 180) less -= 360;
        return less;
    }

    private List<Integer> lines() {
        return all.stream().map(c -> c.line).toList();
    }

    int goes() {
        return goesWith(lines());
    }

    private static void orders(List<Integer> left, List<Integer> taken, List<List<Integer>> orders) {
        if (left.isEmpty()) orders.add(taken);
        for (int i = 0; i < left.size(); i++) {
            List<Integer> rest = new ArrayList<>(left);
            List<Integer> more = new ArrayList<>(taken);
            more.add(rest.remove(i));
            orders(rest, more, orders);
        }
    }

    long luck(boolean upper) {
        if (all.isEmpty() || all.size() > 6) return LATE;
        List<List<Integer>> orders = new ArrayList<>();
        orders(lines(), List.of(), orders);
        int goes = goes();
        long asGreat = orders.stream().filter(order -> goesWith(order) >= goes).count();
        return part(fraction(asGreat, orders.size()), upper);
    }

    int dated(int church, int what) {
        Church c = at(church);
        if (c == null) return UNKNOWN;
        IntPredicate dates = y -> in(y, 0, 600) && hitsIn(2, c, y);
        int[] years = IntStream.range(0, 600).filter(dates).toArray();
        switch (what) {
            case 0: return years.length;
            case 1: return years.length == 0 ? NONE : years[0];
            case 2: return years.length == 0 ? NONE : years[years.length - 1];
            case 3: return (int) Arrays.stream(years).filter(y -> !dates.test(y + 1)).count();
            default: return BAD;
        }
    }

    int master(int x, int y) {
        if (!in(x, 0, 181) || !in(y, 0, 600)) return BAD;
        int best = 0;
        for (int set = (1 << all.size()) - 1; set > 0; set--) {
            if (Integer.bitCount(set) >= Integer.bitCount(best) && alike(set, x, y)) best = set;
        }
        return best;
    }

    private boolean alike(int set, int x, int y) {
        for (int i = 0; i < all.size(); i++) {
            for (int j = 0; j < all.size(); j++) {
                if ((set >> i & 1) == 0 || (set >> j & 1) == 0) continue;
                if (apart(all.get(i).line, all.get(j).line) > x) return false;
                if (all.get(i).middle() - all.get(j).middle() > y) return false;
            }
        }
        return true;
    }

    // ---- choirs, saints that were changed

    int choir(int church, int line, int from, int to) {
        Church c = at(church);
        if (c == null || !in(line, 0, 360) || !in(from, 0, 600) || !in(to, 0, 600)) return UNKNOWN;
        if (to < from || to > from + 60) return BAD;
        if (from <= c.to) return LATE;
        int was = c.choirLine;
        c.choirLine = line;
        c.choirFrom = from;
        c.choirTo = to;
        return was;
    }

    int bends(int church) {
        Church c = at(church);
        if (c == null) return UNKNOWN;
        return c.choirLine == NONE ? LATE : apart(c.choirLine, c.line);
    }

    int why(int church) {
        Church c = at(church);
        if (c == null) return UNKNOWN;
        if (c.choirLine == NONE) return LATE;
        Church choir = c.copy();
        choir.line = c.choirLine;
        choir.from = c.choirFrom;
        choir.to = c.choirTo;
        return IntStream.range(0, 6).filter(r -> explains(r, choir) && !explains(r, c)).findFirst().orElse(NONE);
    }

    private int hitsIfChanged(Church c, int date, int year) {
        return (int) c.years().filter(y -> dateHits(c, y >= year ? date : c.saint, y)).count();
    }

    int when(int church, int date, int year) {
        Church c = at(church);
        if (c == null || !in(date, 0, 364) || !in(year, 0, 600)) return UNKNOWN;
        return c.saint == NONE ? LATE : hitsIfChanged(c, date, year);
    }

    int since(int church, int date) {
        Church c = at(church);
        if (c == null || !in(date, 0, 364)) return UNKNOWN;
        if (c.saint == NONE) return LATE;
        int best = 600;
        for (int year = 599; year >= 0; year--) {
            if (hitsIfChanged(c, date, year) >= hitsIfChanged(c, date, best)) best = year;
        }
        return best;
    }

    // ---- slots

    private static List<Church> copies(List<Church> churches) {
        List<Church> copies = new ArrayList<>();
        for (Church c : churches) copies.add(c.copy());
        return copies;
    }

    int keep(int slot) {
        if (!in(slot, 0, 2)) return UNKNOWN;
        slots.set(slot, copies(all));
        return all.size();
    }

    int again(int slot) {
        if (!in(slot, 0, 2)) return UNKNOWN;
        if (slots.get(slot) == null) return LATE;
        all = copies(slots.get(slot));
        return all.size();
    }

    int count(int what) {
        switch (what) {
            case 0: return all.size();
            case 1: return (int) all.stream().filter(c -> c.saint != NONE).count();
            case 2: return (int) all.stream().filter(c -> c.choirLine != NONE).count();
            case 3: return (int) all.stream().filter(c -> rules(c) == 0).count();
            case 4: return book.isEmpty() ? 0 : book.split(";").length;
            case 5: return text.length();
            default: return BAD;
        }
    }
}
