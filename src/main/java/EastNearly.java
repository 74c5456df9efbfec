/**
 * East, nearly: which rule set the line of which church. ../shared/DOC.md says what each call answers.
 *
 * Arrays are read by at() and changed by put() alone, so that no index goes unlooked at. All rows are made
 * with the object: no call makes anything.
 */
public final class EastNearly {
    public static final int UNKNOWN = -1, BAD = -2, LATE = -3, FULL = -4, NONE = -9;

    private static final int DEGREES = 360, EAST = 90, TEN = 10, TENS = 36;
    private static final int YEARS = 600, LONGEST_BUILDING = 60;
    private static final int DAYS = 364, AUTUMN = 182;
    private static final int LANDS = 4, TOP_HEIGHT = 9, TOP_SLIP = 9, TOP_WEIGHT = 9, LONGEST_WORD = 8;
    private static final int MOST_CHURCHES = 10, MOST_BY_LUCK = 6;

    private static final int TRUE_EAST = 0, SAINTS_DAY = 1, BY_NEEDLE = 2, BY_STREET = 3, BY_OLD_WALL = 4,
            FEAST_DAY = 5, RULES = 6;

    private static final int LAND = 0, LINE = 1, SLIP = 2, FROM = 3, TO = 4, SAINT = 5, STREET = 6, OLD_WALL = 7,
            CHOIR_LINE = 8, CHOIR_FROM = 9, CHOIR_TO = 10, TOLD = 11;

    private final Sky sky = new Sky();
    private final Book needleBook = new Book();
    private final Churches churches = new Churches();
    private final Churches firstSlot = new Churches();
    private final Churches secondSlot = new Churches();
    private final SaintDeals saintDeals = new SaintDeals();
    private final LineDeals lineDeals = new LineDeals();
    private final int[] weights = new int[RULES];
    private final int[] bitsOfChurches = new int[MOST_CHURCHES];
    private int feastDate = 0;

    public EastNearly() {
        for (int rule = 0; rule < RULES; rule++) put(weights, rule, 1);
    }

    // ---- sun, edges, calendars

    public int off(int degree, int other) {
        if (!isDegree(degree) || !isDegree(other)) return UNKNOWN;
        return apart(degree, other);
    }

    public int sun(int day) {
        if (!isDay(day)) return UNKNOWN;
        return Sky.sunAt(day);
    }

    public int edge(int land, int ten, int height) {
        if (!isLand(land) || !within(ten, 0, TENS - 1)) return UNKNOWN;
        if (!within(height, 0, TOP_HEIGHT)) return BAD;
        return sky.setHeight(land, ten, height);
    }

    public int rise(int land, int day) {
        if (!isLand(land) || !isDay(day)) return UNKNOWN;
        return sky.riseAt(land, day);
    }

    public int switched(int year) {
        if (!within(year, 0, YEARS)) return BAD;
        int old = sky.switchYear;
        sky.switchYear = year;
        return old;
    }

    public int day(int date, int year) {
        if (!isDate(date) || !isYear(year)) return UNKNOWN;
        return sky.dayOf(date, year);
    }

    public int feast(int date) {
        if (!isDate(date)) return UNKNOWN;
        int old = feastDate;
        feastDate = date;
        return old;
    }

    // ---- the book

    public int write(int n, long v) {
        if (!within(n, 1, LONGEST_WORD)) return BAD;
        if (n > needleBook.room()) return FULL;
        return needleBook.append(n, v);
    }

    public int wipe() {
        return needleBook.clearText();
    }

    public int fault() {
        return needleBook.firstFault();
    }

    public int book() {
        if (needleBook.firstFault() != NONE) return LATE;
        return needleBook.readText();
    }

    public int needle(int year) {
        if (!isYear(year)) return UNKNOWN;
        return needleBook.needleIn(year) + 100;
    }

    // ---- churches

    public int church(int land, int line, int slip, int from, int to) {
        if (!isLand(land) || !isDegree(line) || !isYear(from) || !isYear(to)) return UNKNOWN;
        if (!within(slip, 0, TOP_SLIP) || !within(to - from, 0, LONGEST_BUILDING)) return BAD;
        if (churches.size >= MOST_CHURCHES) return FULL;
        return churches.add(land, line, slip, from, to);
    }

    public int tell(int church, int what, int v) {
        if (!churches.has(church)) return UNKNOWN;
        if (!within(what, 0, OLD_WALL - SAINT)) return BAD;
        // saint, street and old wall stand one behind the other in what is told of a church
        int told = SAINT + what;
        boolean fits = v == NONE || (told == SAINT ? isDate(v) : isDegree(v));
        return fits ? churches.change(church, told, v) : BAD;
    }

    public int about(int church, int what) {
        if (!churches.has(church)) return UNKNOWN;
        if (!within(what, 0, TOLD - 1)) return BAD;
        return churches.get(church, what);
    }

    public int line(int rule, int church, int year) {
        if (!isRule(rule) || !churches.has(church) || !isYear(year)) return UNKNOWN;
        return lineBy(rule, church, year);
    }

    public int hits(int rule, int church) {
        if (!isRule(rule) || !churches.has(church)) return UNKNOWN;
        return countHits(rule, church);
    }

    public int hit(int rule, int church, int i) {
        if (!isRule(rule) || !churches.has(church)) return UNKNOWN;
        int ahead = 0;
        int to = churches.get(church, TO);
        for (int year = churches.get(church, FROM); year <= to; year++) {
            if (!ruleHits(rule, church, year)) continue;
            if (ahead == i) return year;
            ahead++;
        }
        return NONE;
    }

    public int explain(int church) {
        if (!churches.has(church)) return UNKNOWN;
        return rulesThatExplain(church);
    }

    public long chance(int rule, int church, boolean upper) {
        if (!isRule(rule) || !churches.has(church)) return UNKNOWN;
        int years = churches.get(church, TO) - churches.get(church, FROM) + 1;
        int degrees = 2 * churches.get(church, SLIP) + 1;
        return inLeastTerms(countHits(rule, church), years * degrees, upper);
    }

    public int weight(int rule, int v) {
        if (!isRule(rule)) return UNKNOWN;
        if (!within(v, 0, TOP_WEIGHT)) return BAD;
        int old = at(weights, rule);
        put(weights, rule, v);
        return old;
    }

    public long odds(int rule, int church, boolean upper) {
        if (!isRule(rule) || !churches.has(church)) return UNKNOWN;
        int all = 0;
        for (int any = 0; any < RULES; any++) all += weighedHits(any, church);
        if (all == 0) return LATE;
        return inLeastTerms(weighedHits(rule, church), all, upper);
    }

    public int best(int church) {
        if (!churches.has(church)) return UNKNOWN;
        int best = LATE;
        int most = 0;
        for (int rule = 0; rule < RULES; rule++) {
            int weighed = weighedHits(rule, church);
            if (weighed > most) {
                most = weighed;
                best = rule;
            }
        }
        return best;
    }

    public int fewest() {
        for (int church = 0; church < churches.size; church++) {
            put(bitsOfChurches, church, rulesThatExplain(church));
        }
        int allRules = (1 << RULES) - 1;
        int fewest = allRules;
        for (int set = 0; set < allRules; set++) {
            if (Integer.bitCount(set) < Integer.bitCount(fewest) && suffices(set)) fewest = set;
        }
        return fewest;
    }

    public int look() {
        int first = NONE;
        int most = -1;
        for (int church = 0; church < churches.size; church++) {
            int rules = Integer.bitCount(rulesThatExplain(church));
            if (rules > most) {
                most = rules;
                first = church;
            }
        }
        return first;
    }

    // ---- days, saints, the needle

    public int days(int church) {
        if (!churches.has(church)) return UNKNOWN;
        int many = 0;
        for (int day = 0; day < DAYS; day++) {
            if (isDayOfLine(church, day)) many++;
        }
        return many;
    }

    public int on(int church, int day) {
        if (!churches.has(church) || !isDay(day)) return UNKNOWN;
        return isDayOfLine(church, day) ? 1 : 0;
    }

    public int own() {
        return ownHits();
    }

    public long deals(int k) {
        if (!within(k, 0, MOST_CHURCHES)) return BAD;
        dealSaints();
        return saintDeals.waysWith(k);
    }

    public long dealt(boolean upper) {
        dealSaints();
        int own = ownHits();
        long all = 0;
        long asMany = 0;
        for (int k = 0; k <= MOST_CHURCHES; k++) {
            int ways = saintDeals.waysWith(k);
            all += ways;
            if (k >= own) asMany += ways;
        }
        return inLeastTerms(asMany, all, upper);
    }

    public int goes() {
        return scoreAsBuilt();
    }

    public long luck(boolean upper) {
        if (!within(churches.size, 1, MOST_BY_LUCK)) return LATE;
        int score = scoreAsBuilt();
        int all = 1;
        for (int n = 2; n <= churches.size; n++) all *= n;
        int asGreat = 0;
        for (int way = 0; way < all; way++) {
            lineDeals.deal(way);
            if (lineDeals.score() >= score) asGreat++;
        }
        return inLeastTerms(asGreat, all, upper);
    }

    public int dated(int church, int what) {
        if (!churches.has(church)) return UNKNOWN;
        if (!within(what, 0, 3)) return BAD;
        int many = 0;
        int first = NONE;
        int last = NONE;
        int spans = 0;
        for (int year = 0; year < YEARS; year++) {
            if (!ruleHits(BY_NEEDLE, church, year)) continue;
            if (many == 0) first = year;
            if (many == 0 || last < year - 1) spans++;
            many++;
            last = year;
        }
        switch (what) {
            case 0: return many;
            case 1: return first;
            case 2: return last;
            default: return spans;
        }
    }

    public int master(int x, int y) {
        if (!within(x, 0, DEGREES / 2) || !within(y, 0, YEARS - 1)) return BAD;
        for (int church = 0; church < churches.size; church++) {
            put(bitsOfChurches, church, churchesLike(church, x, y));
        }
        int most = 0;
        for (int set = 1; set < 1 << churches.size; set++) {
            if (Integer.bitCount(set) > Integer.bitCount(most) && areAllAlike(set)) most = set;
        }
        return most;
    }

    // ---- choirs, saints that were changed

    public int choir(int church, int line, int from, int to) {
        if (!churches.has(church) || !isDegree(line) || !isYear(from) || !isYear(to)) return UNKNOWN;
        if (!within(to - from, 0, LONGEST_BUILDING)) return BAD;
        if (from <= churches.get(church, TO)) return LATE;
        churches.change(church, CHOIR_FROM, from);
        churches.change(church, CHOIR_TO, to);
        return churches.change(church, CHOIR_LINE, line);
    }

    public int bends(int church) {
        if (!churches.has(church)) return UNKNOWN;
        if (!churches.knows(church, CHOIR_LINE)) return LATE;
        return apart(churches.get(church, CHOIR_LINE), churches.get(church, LINE));
    }

    public int why(int church) {
        if (!churches.has(church)) return UNKNOWN;
        if (!churches.knows(church, CHOIR_LINE)) return LATE;
        for (int rule = 0; rule < RULES; rule++) {
            boolean explainsChoir = explains(rule, church, CHOIR_LINE, CHOIR_FROM, CHOIR_TO);
            if (explainsChoir && !explains(rule, church, LINE, FROM, TO)) return rule;
        }
        return NONE;
    }

    public int when(int church, int date, int year) {
        if (!churches.has(church) || !isDate(date) || !isYear(year)) return UNKNOWN;
        if (!churches.knows(church, SAINT)) return LATE;
        int saint = churches.get(church, SAINT);
        int to = churches.get(church, TO);
        int many = 0;
        for (int built = churches.get(church, FROM); built <= to; built++) {
            if (dateHits(church, built < year ? saint : date, built)) many++;
        }
        return many;
    }

    public int since(int church, int date) {
        if (!churches.has(church) || !isDate(date)) return UNKNOWN;
        if (!churches.knows(church, SAINT)) return LATE;
        int saint = churches.get(church, SAINT);
        int to = churches.get(church, TO);
        // counted against a change in the year 0: each year that comes ahead of the change goes over to the saint
        int more = 0;
        int most = 0;
        int since = 0;
        for (int built = churches.get(church, FROM); built <= to; built++) {
            if (dateHits(church, saint, built)) more++;
            if (dateHits(church, date, built)) more--;
            if (more > most) {
                most = more;
                since = built + 1;
            }
        }
        return since;
    }

    // ---- slots

    public int keep(int slot) {
        if (!isSlot(slot)) return UNKNOWN;
        return slotAt(slot).takeAll(churches);
    }

    public int again(int slot) {
        if (!isSlot(slot)) return UNKNOWN;
        if (!slotAt(slot).taken) return LATE;
        return churches.takeAll(slotAt(slot));
    }

    public int count(int what) {
        switch (what) {
            case 0: return churches.size;
            case 1: return churches.countWith(SAINT);
            case 2: return churches.countWith(CHOIR_LINE);
            case 3: return countUnexplained();
            case 4: return needleBook.entries;
            case 5: return needleBook.length;
            default: return BAD;
        }
    }

    // ---- which rule hits which church

    private int lineBy(int rule, int church, int year) {
        int land = churches.get(church, LAND);
        switch (rule) {
            case TRUE_EAST: return EAST;
            case SAINTS_DAY: return sky.riseAt(land, sky.dayOf(churches.get(church, SAINT), year));
            case BY_NEEDLE: return EAST + needleBook.needleIn(year);
            case BY_STREET: return churches.get(church, STREET);
            case BY_OLD_WALL: return churches.get(church, OLD_WALL);
            case FEAST_DAY: return sky.riseAt(land, sky.dayOf(feastDate, year));
            default: return NONE;
        }
    }

    private boolean ruleHits(int rule, int church, int year) {
        return isNear(lineBy(rule, church, year), churches.get(church, LINE), churches.get(church, SLIP));
    }

    private boolean dateHits(int church, int date, int year) {
        int rise = sky.riseAt(churches.get(church, LAND), sky.dayOf(date, year));
        return isNear(rise, churches.get(church, LINE), churches.get(church, SLIP));
    }

    private int countHits(int rule, int church) {
        int many = 0;
        int to = churches.get(church, TO);
        for (int year = churches.get(church, FROM); year <= to; year++) {
            if (ruleHits(rule, church, year)) many++;
        }
        return many;
    }

    // a choir is a church with another line and other years: where these stand is told
    private boolean explains(int rule, int church, int lineAt, int fromAt, int toAt) {
        int line = churches.get(church, lineAt);
        int slip = churches.get(church, SLIP);
        int to = churches.get(church, toAt);
        for (int year = churches.get(church, fromAt); year <= to; year++) {
            if (isNear(lineBy(rule, church, year), line, slip)) return true;
        }
        return false;
    }

    private int rulesThatExplain(int church) {
        int rules = 0;
        for (int rule = 0; rule < RULES; rule++) {
            if (explains(rule, church, LINE, FROM, TO)) rules |= 1 << rule;
        }
        return rules;
    }

    // the chances of a church all share one divisor, so that its odds need the hits alone
    private int weighedHits(int rule, int church) {
        return at(weights, rule) * countHits(rule, church);
    }

    private boolean suffices(int set) {
        for (int church = 0; church < churches.size; church++) {
            int rules = at(bitsOfChurches, church);
            if (rules != 0 && (rules & set) == 0) return false;
        }
        return true;
    }

    private int countUnexplained() {
        int many = 0;
        for (int church = 0; church < churches.size; church++) {
            if (rulesThatExplain(church) == 0) many++;
        }
        return many;
    }

    // ---- days, saints and lines dealt anew, masters

    private boolean isDayOfLine(int church, int day) {
        int rise = sky.riseAt(churches.get(church, LAND), day);
        return isNear(rise, churches.get(church, LINE), churches.get(church, SLIP));
    }

    private int ownHits() {
        int many = 0;
        for (int church = 0; church < churches.size; church++) {
            if (explains(SAINTS_DAY, church, LINE, FROM, TO)) many++;
        }
        return many;
    }

    private void dealSaints() {
        saintDeals.clearSaints();
        for (int church = 0; church < churches.size; church++) {
            if (churches.knows(church, SAINT)) saintDeals.addSaint(saintsThatExplain(church));
        }
        saintDeals.countWays();
    }

    // as bits by the order in which the saints stand: two saints of one date are two
    private int saintsThatExplain(int church) {
        int saints = 0;
        int place = 0;
        for (int other = 0; other < churches.size; other++) {
            if (!churches.knows(other, SAINT)) continue;
            if (dateExplains(church, churches.get(other, SAINT))) saints |= 1 << place;
            place++;
        }
        return saints;
    }

    private boolean dateExplains(int church, int date) {
        int to = churches.get(church, TO);
        for (int year = churches.get(church, FROM); year <= to; year++) {
            if (dateHits(church, date, year)) return true;
        }
        return false;
    }

    private int scoreAsBuilt() {
        lineDeals.clearLines();
        for (int church = 0; church < churches.size; church++) {
            int needle = needleBook.needleIn(churches.middleYear(church));
            lineDeals.addLine(needle, fromEast(churches.get(church, LINE)));
        }
        return lineDeals.score();
    }

    private int churchesLike(int church, int x, int y) {
        int like = 0;
        for (int other = 0; other < churches.size; other++) {
            int degrees = apart(churches.get(church, LINE), churches.get(other, LINE));
            int years = Math.abs(churches.middleYear(church) - churches.middleYear(other));
            if (degrees <= x && years <= y) like |= 1 << other;
        }
        return like;
    }

    private boolean areAllAlike(int set) {
        for (int church = 0; church < churches.size; church++) {
            boolean inSet = (set >> church & 1) == 1;
            if (inSet && (set & ~at(bitsOfChurches, church)) != 0) return false;
        }
        return true;
    }

    private Churches slotAt(int slot) {
        return slot == 0 ? firstSlot : secondSlot;
    }

    // ---- numbers and rows

    private static boolean within(int v, int least, int most) {
        return v >= least && v <= most;
    }

    private static boolean isDegree(int v) {
        return within(v, 0, DEGREES - 1);
    }

    private static boolean isYear(int v) {
        return within(v, 0, YEARS - 1);
    }

    private static boolean isDay(int v) {
        return within(v, 0, DAYS - 1);
    }

    private static boolean isDate(int v) {
        return within(v, 0, DAYS - 1);
    }

    private static boolean isLand(int v) {
        return within(v, 0, LANDS - 1);
    }

    private static boolean isRule(int v) {
        return within(v, 0, RULES - 1);
    }

    private static boolean isSlot(int v) {
        return within(v, 0, 1);
    }

    private static int apart(int degree, int other) {
        int between = Math.abs(degree - other);
        return Math.min(between, DEGREES - between);
    }

    private static boolean isNear(int lineByRule, int line, int slip) {
        return lineByRule != NONE && apart(lineByRule, line) <= slip;
    }

    private static int fromEast(int line) {
        int turned = line - EAST;
        return turned > DEGREES / 2 ? turned - DEGREES : turned;
    }

    private static long inLeastTerms(long top, long bottom, boolean upper) {
        long divisor = greatestDivisor(top, bottom);
        if (divisor <= 0) return upper ? 0 : 1;
        return (upper ? top : bottom) / divisor;
    }

    // Euclid's steps on longs are fewer than 100
    private static long greatestDivisor(long a, long b) {
        long greater = a;
        long less = b;
        for (int step = 0; step < 100 && less != 0; step++) {
            long rest = greater % less;
            greater = less;
            less = rest;
        }
        return greater;
    }

    private static int at(int[] row, int place) {
        return row != null && place >= 0 && place < row.length ? row[place] : NONE;
    }

    private static void put(int[] row, int place, int v) {
        if (row != null && place >= 0 && place < row.length) row[place] = v;
    }

    /** The sun over the edges of the lands, and the calendar that finds its days. */
    private static final class Sky {
        private final int[] heights = new int[LANDS * TENS];
        private int switchYear = YEARS;

        private static int sunAt(int day) {
            int away = Math.min(Math.abs(day - AUTUMN), Math.min(day, DAYS - day));
            int turn = 40 * away / 91;
            return day <= AUTUMN ? EAST - turn : EAST + turn;
        }

        private int setHeight(int land, int ten, int height) {
            int old = at(heights, land * TENS + ten);
            put(heights, land * TENS + ten, height);
            return old;
        }

        private int riseAt(int land, int day) {
            if (!isLand(land) || !isDay(day)) return NONE;
            int sun = sunAt(day);
            int z = 0;
            while (z < TOP_HEIGHT && z < at(heights, land * TENS + (sun + z) / TEN)) z++;
            return sun + z;
        }

        private int dayOf(int date, int year) {
            if (!isDate(date)) return NONE;
            return year < switchYear ? (date + year / 120) % DAYS : date;
        }
    }

    /** The text as it is written, and the needle's book as it was last read from a text. */
    private static final class Book {
        private static final int LONGEST_TEXT = 48, ENTRY = 7, SIGN = 3, TURN = 4, MOST_ENTRIES = 7, TOP_TURN = 40;

        private final int[] text = new int[LONGEST_TEXT];
        private final int[] years = new int[MOST_ENTRIES];
        private final int[] turns = new int[MOST_ENTRIES];
        private int length = 0;
        private int entries = 0;

        private int room() {
            return LONGEST_TEXT - length;
        }

        private int append(int n, long v) {
            for (int left = n - 1; left >= 0; left--) {
                put(text, length, (int) (v >> 8 * left) & 255);
                length++;
            }
            return length;
        }

        private int clearText() {
            int old = length;
            length = 0;
            return old;
        }

        private int firstFault() {
            for (int place = 0; place < length; place++) {
                if (!canStand(place)) return place;
            }
            boolean endsBehindEntry = length % ENTRY == ENTRY - 1;
            return endsBehindEntry ? NONE : length;
        }

        // all entries are of one length, so that a byte's place tells what it is; all ahead of it is without fault
        private boolean canStand(int place) {
            int inEntry = place % ENTRY;
            int entry = place - inEntry;
            int sign = at(text, place);
            switch (inEntry) {
                case SIGN: return sign == '+' || sign == '-';
                case TURN: return isFigure(sign) && figures(entry + TURN, 1) <= TOP_TURN / TEN;
                case TURN + 1: return isFigure(sign) && figures(entry + TURN, 2) <= TOP_TURN;
                case ENTRY - 1: return sign == ';' && figures(entry, SIGN) < YEARS - 1;
                default: return isFigure(sign) && canBeYear(entry, inEntry + 1);
            }
        }

        // a year of which only some figures are known can still become any year between that with 0s and that with 9s
        private boolean canBeYear(int entry, int known) {
            int least = figures(entry, known);
            int greatest = least;
            for (int unknown = known; unknown < SIGN; unknown++) {
                least = least * TEN;
                greatest = greatest * TEN + 9;
            }
            int yearAhead = entry == 0 ? -1 : figures(entry - ENTRY, SIGN);
            return least < YEARS && greatest > yearAhead;
        }

        private static boolean isFigure(int sign) {
            return sign >= '0' && sign <= '9';
        }

        private int figures(int place, int many) {
            int v = 0;
            for (int i = 0; i < many; i++) v = v * TEN + at(text, place + i) - '0';
            return v;
        }

        private int readText() {
            entries = (length + 1) / ENTRY;
            for (int entry = 0; entry < entries; entry++) {
                int place = entry * ENTRY;
                int turn = figures(place + TURN, 2);
                put(years, entry, figures(place, SIGN));
                put(turns, entry, at(text, place + SIGN) == '-' ? -turn : turn);
            }
            return entries;
        }

        private int needleIn(int year) {
            if (entries == 0) return 0;
            int later = 0;
            while (later < entries && at(years, later) <= year) later++;
            if (later == 0) return at(turns, 0);
            int turn = at(turns, later - 1);
            if (later == entries) return turn;
            int gone = year - at(years, later - 1);
            int span = at(years, later) - at(years, later - 1);
            if (span <= 0) return turn;
            return turn + (at(turns, later) - turn) * gone / span;
        }
    }

    /** The churches with all that is told of them, a row of numbers each; a slot is such a list too. */
    private static final class Churches {
        private final int[] told = new int[MOST_CHURCHES * TOLD];
        private int size = 0;
        private boolean taken = false;

        private boolean has(int church) {
            return church >= 0 && church < size;
        }

        private int get(int church, int what) {
            return at(told, church * TOLD + what);
        }

        private boolean knows(int church, int what) {
            return get(church, what) != NONE;
        }

        private int change(int church, int what, int v) {
            int old = get(church, what);
            put(told, church * TOLD + what, v);
            return old;
        }

        private int add(int land, int line, int slip, int from, int to) {
            int church = size;
            for (int what = 0; what < TOLD; what++) change(church, what, NONE);
            change(church, LAND, land);
            change(church, LINE, line);
            change(church, SLIP, slip);
            change(church, FROM, from);
            change(church, TO, to);
            size++;
            return church;
        }

        private int takeAll(Churches other) {
            if (other == null) return NONE;
            for (int place = 0; place < MOST_CHURCHES * TOLD; place++) put(told, place, at(other.told, place));
            size = other.size;
            taken = true;
            return size;
        }

        private int middleYear(int church) {
            return (get(church, FROM) + get(church, TO)) / 2;
        }

        private int countWith(int what) {
            int many = 0;
            for (int church = 0; church < size; church++) {
                if (knows(church, what)) many++;
            }
            return many;
        }
    }

    /** All ways to deal the saints to the places they stand at, counted by how many of them explain theirs. */
    private static final class SaintDeals {
        private static final int COUNTS = MOST_CHURCHES + 1;

        private final int[] explaining = new int[MOST_CHURCHES];
        private final int[] ways = new int[(1 << MOST_CHURCHES) * COUNTS];
        private int places = 0;

        private void clearSaints() {
            places = 0;
        }

        private void addSaint(int saints) {
            put(explaining, places, saints);
            places++;
        }

        // each set of saints has a row: the ways to deal it to just as many places, the first ones, by own hits
        private void countWays() {
            int sets = 1 << places;
            for (int i = 0; i < sets * COUNTS; i++) put(ways, i, 0);
            put(ways, 0, 1);
            for (int set = 1; set < sets; set++) {
                int lastPlace = Integer.bitCount(set) - 1;
                for (int saint = 0; saint < places; saint++) {
                    if ((set >> saint & 1) == 0) continue;
                    int hit = at(explaining, lastPlace) >> saint & 1;
                    addWays(set, set - (1 << saint), lastPlace, hit);
                }
            }
        }

        private void addWays(int set, int rest, int restSize, int hit) {
            for (int k = 0; k <= restSize; k++) {
                int to = set * COUNTS + k + hit;
                put(ways, to, at(ways, to) + at(ways, rest * COUNTS + k));
            }
        }

        private int waysWith(int k) {
            int all = (1 << places) - 1;
            return at(ways, all * COUNTS + k);
        }
    }

    /** The needles and lines of the churches, and the lines as they are dealt to them. */
    private static final class LineDeals {
        private final int[] needles = new int[MOST_CHURCHES];
        private final int[] lines = new int[MOST_CHURCHES];
        private final int[] dealtLines = new int[MOST_CHURCHES];
        private int places = 0;

        private void clearLines() {
            places = 0;
        }

        private void addLine(int needle, int line) {
            put(needles, places, needle);
            put(lines, places, line);
            put(dealtLines, places, line);
            places++;
        }

        // a way is told by its number: what is left over by each place's choices picks among the lines that are left
        private void deal(int way) {
            int number = way;
            int left = (1 << places) - 1;
            for (int choices = places; choices > 0; choices--) {
                int line = bitAt(left, number % choices);
                put(dealtLines, places - choices, at(lines, line));
                left &= ~(1 << line);
                number /= choices;
            }
        }

        private static int bitAt(int bits, int i) {
            int ahead = 0;
            for (int bit = 0; bit < MOST_CHURCHES; bit++) {
                if ((bits >> bit & 1) == 0) continue;
                if (ahead == i) return bit;
                ahead++;
            }
            return 0;
        }

        private int score() {
            int score = 0;
            for (int one = 0; one < places; one++) {
                for (int other = 0; other < one; other++) {
                    int needleWay = way(at(needles, one), at(needles, other));
                    int lineWay = way(at(dealtLines, one), at(dealtLines, other));
                    score += needleWay * lineWay;
                }
            }
            return score;
        }

        private static int way(int from, int to) {
            if (from == to) return 0;
            return from < to ? 1 : -1;
        }
    }
}
