/** Each sentence of the document's promises that names a boundary, by a test that bears its words. */
public final class PromiseEdgesTest extends Sentences {
    private static final String CHURCH = "church 0 90 0 0 0 = 0, ";
    private static final String NO_WEIGHTS = count(6, "weight # 0 = 1") + ", ";

    private static final long[] NO_FOUR = {Integer.MIN_VALUE, -9, -1, 4, Integer.MAX_VALUE};
    private static final long[] NO_ELEVEN = {Integer.MIN_VALUE, -9, -1, 11, Integer.MAX_VALUE};
    private static final long[] NO_COUNT = {Integer.MIN_VALUE, -9, -1, 6, Integer.MAX_VALUE};

    private PromiseEdgesTest() {
        super("PromiseEdgesTest");
    }

    private void promise(int number) {
        in("Promise " + number);
    }

    private void newObject() {
        promise(1);
        says("Flat LANDS, no BOOK, no CHURCHES",
            count(4, "rise # 91 = 50") + ", " + count(4, "rise # 273 = 130") + ", " + count(4, "rise # 0 = 90"),
            count(36, "edge 0 # 0 = 0") + ", " + count(36, "edge 3 # 0 = 0"),
            count(36, "edge 1 # 0 = 0") + ", " + count(36, "edge 2 # 0 = 0"),
            "needle 0 = 100, needle 599 = 100, count 4 = 0, count 5 = 0, wipe = 0, fault = 0, book = LATE",
            "count 0 = 0, count 1 = 0, count 2 = 0, count 3 = 0, about 0 0 = UNKNOWN, explain 0 = UNKNOWN, "
                + "look = NONE",
            "fewest = 0, own = 0, deals 0 = 1, goes = 0, luck true = LATE, master 180 599 = 0, again 0 = LATE, "
                + "again 1 = LATE",
            "switched 600 = 600, feast 0 = 0, " + count(6, "weight # 1 = 1"));
    }

    private void sunAndLands() {
        promise(2);
        says("By how much two DEGREES are OFF",
            "off 0 0 = 0, off 359 359 = 0, off 0 359 = 1, off 0 180 = 180, off 359 179 = 180");
        says("UNKNOWN.",
            each("off # 0 = UNKNOWN", NO_DEGREE) + ", " + each("off 359 # = UNKNOWN", NO_DEGREE),
            each("off # # = UNKNOWN", NO_DEGREE));
        promise(3);
        says("Where THE SUN comes up on a DAY", "sun 0 = 90, sun 91 = 50, sun 182 = 90, sun 273 = 130, sun 363 = 90");
        says("UNKNOWN.", each("sun # = UNKNOWN", NO_DAY));
        promise(4);
        says("at ten DEGREES (0 .. 35) is so high: what it was",
            "edge 0 0 9 = 0, edge 0 0 0 = 9, edge 0 0 0 = 0, edge 3 35 9 = 0, edge 3 35 1 = 9, edge 3 35 0 = 1",
            "edge 0 0 1 = 0, edge 0 35 2 = 0, edge 1 0 3 = 0, edge 0 0 4 = 1, edge 0 35 5 = 2, edge 1 0 6 = 3");
        says("UNKNOWN: land, ten",
            each("edge # 0 0 = UNKNOWN", NO_LAND) + ", " + each("edge # 35 9 = UNKNOWN", NO_LAND),
            each("edge 0 # 0 = UNKNOWN", Integer.MIN_VALUE, -9, -1, 36, 359, Integer.MAX_VALUE));
        says("BAD.",
            each("edge 0 0 # = BAD", NOT_OF_TEN) + ", " + each("edge 3 35 # = BAD", NOT_OF_TEN) + ", edge 3 35 9 = 0");
        promise(5);
        says("THE RISE.",
            "rise 0 0 = 90, rise 3 363 = 90, edge 3 9 9 = 0, rise 3 363 = 99, rise 3 0 = 99, rise 2 0 = 90",
            count(4, "edge # 5 9 = 0") + ", " + count(4, "rise # 91 = 59"));
        says("UNKNOWN.", each("rise # 0 = UNKNOWN", NO_LAND) + ", " + each("rise 3 # = UNKNOWN", NO_DAY));
        promise(6);
        says("THE SWITCH: what it was", "switched 0 = 600, switched 599 = 0, switched 600 = 599, switched 600 = 600");
        says("BAD.",
            each("switched # = BAD", Integer.MIN_VALUE, -9, -1, 601, Integer.MAX_VALUE) + ", switched 0 = 600");
        promise(7);
        says("The DAY of a DATE in a YEAR",
            "day 0 0 = 0, day 363 0 = 363, day 0 599 = 4, day 363 599 = 3, switched 0 = 600, day 363 599 = 363");
        says("UNKNOWN.", each("day # 0 = UNKNOWN", NO_DAY) + ", " + each("day 363 # = UNKNOWN", NO_YEAR));
        promise(8);
        says("THE FEAST's DATE: what it was", "feast 363 = 0, feast 363 = 363, feast 0 = 363, feast 0 = 0");
        says("UNKNOWN.", each("feast # = UNKNOWN", NO_DAY) + ", feast 1 = 0");
    }

    private void theText() {
        promise(9);
        // 31 30 30 2B 31 30 3B 32 are the bytes of 100+10;2
        says("n bytes (1 .. 8) of v",
            "write 1 0x31 = 1, fault = 1, wipe = 1, write 8 0x3130302B31303B32 = 8, fault = 8",
            "write 6 0x3130302B3130 = 6, book = 1, needle 0 = 110",
            "write 2 0 = 2, write 3 0 = 5, write 4 0 = 9, write 5 0 = 14, write 7 0 = 21");
        says("the lowest n",
            "write 3 0x7F7F313030 = 3, fault = 3, write 3 0x312B3130 = 6, book = 1, needle 0 = 110",
            "write 3 -0xFFFFFFFFCECFD0 = 3, fault = 3, write 1 -213 = 4, fault = 4, write 2 0x3031303130 = 6, "
                + "book = 1, needle 0 = 110",
            "write 1 -1 = 1, fault = 0, wipe = 1, write 8 -1 = 8, fault = 0");
        says("the highest of these first",
            "write 5 0x3130302B31 = 5, fault = 5, write 1 0x30 = 6, fault = NONE",
            "write 2 0x3230 = 2, fault = 2, wipe = 2, write 2 0x302B = 2, fault = 1, wipe = 2, write 2 0x2B30 = 2, "
                + "fault = 0",
            "write 8 0x3100000000000000 = 8, fault = 1, wipe = 8, write 8 0x31 = 8, fault = 0");
        says("come behind THE TEXT: how long it is",
            "write 3 0x313030 = 3, write 3 0x2B3130 = 6, write 7 0x3B3230302D3230 = 13, book = 2, needle 200 = 80",
            "write 8 0 = 8, write 8 0 = 16, write 8 0 = 24, write 8 0 = 32, write 8 0 = 40, write 8 0 = 48, "
                + "count 5 = 48");
        says("BAD;", each("write # 0x31 = BAD", Integer.MIN_VALUE, -9, -1, 0, 9, Integer.MAX_VALUE) + ", count 5 = 0");
        says("FULL: it would be longer than 48 (nothing comes)",
            count(48, "write 1 # = ?") + ", count 5 = 48, write 1 0 = FULL, write 8 0 = FULL, count 5 = 48",
            count(41, "write 1 # = ?") + ", write 8 0 = FULL, count 5 = 41, write 7 0 = 48, write 1 0 = FULL, "
                + "wipe = 48, write 8 0 = 8",
            "text 000+00;001+00;002+00;003+00;004+00;005+00 = 41, write 8 0x3B3030362B303078 = FULL, fault = NONE, "
                + "book = 6, write 7 0x3B3030362B3030 = 48, book = 7");
        promise(10);
        says("THE TEXT is empty: how long it was",
            "wipe = 0, text 1, wipe = 1, wipe = 0, count 5 = 0, fault = 0",
            "text " + LONGEST + " = 48, wipe = 48, count 5 = 0, text 100+10 = 6, book = 1, wipe = 6, count 4 = 1, "
                + "needle 0 = 110");
        promise(11);
        says("FAULT;",
            "fault = 0, text 100 = 3, fault = 3, text x = 4, fault = 3, text +10 = 7, fault = 3, wipe = 7, fault = 0");
        says("NONE.",
            "text 100+10, fault = NONE, text ; = 7, fault = 7, text 101-10 = 13, fault = NONE",
            "text " + LONGEST + ", fault = NONE");
    }

    private void theBook() {
        promise(12);
        says("THE TEXT is THE BOOK (THE TEXT itself stays): how many ENTRIES",
            "text 100+10 = 6, book = 1, count 5 = 6, fault = NONE, book = 1, text ;200-10 = 13, needle 200 = 110, "
                + "book = 2, needle 200 = 90",
            "text " + LONGEST + " = 48, book = 7, count 4 = 7, count 5 = 48, wipe = 48, count 4 = 7, "
                + "needle 599 = 60, text 300+03 = 6, book = 1, needle 599 = 103");
        says("LATE: a FAULT",
            "book = LATE, text 1, book = LATE, text 00+1, book = LATE, text 0, book = 1, text ;, book = LATE",
            "text x, book = LATE, wipe, text 100+41 = 6, book = LATE, count 4 = 0, needle 0 = 100",
            "read 100+10 = 1, wipe = 6, book = LATE, count 4 = 1, needle 0 = 110");
        promise(13);
        says("THE NEEDLE, and 100",
            "needle 0 = 100, needle 599 = 100, read 000-40;599+40 = 2, needle 0 = 60, needle 599 = 140, "
                + "needle 300 = 100");
        says("UNKNOWN.",
            each("needle # = UNKNOWN", NO_YEAR),
            "read 000+01 = 1, " + each("needle # = UNKNOWN", NO_YEAR));
    }

    private void aChurch() {
        promise(14);
        says("A CHURCH: its number", count(10, "church 0 # 0 0 0 = #") + ", " + count(10, "about # 1 = #"));
        says("UNKNOWN: land, degree, years",
            each("church # 0 0 0 0 = UNKNOWN", NO_LAND) + ", " + each("church 3 # 9 539 599 = UNKNOWN", NO_DEGREE),
            each("church 0 0 0 # 599 = UNKNOWN", NO_YEAR) + ", " + each("church 0 0 0 599 # = UNKNOWN", NO_YEAR)
                + ", " + each("church 0 0 0 # # = UNKNOWN", NO_YEAR) + ", church 0 0 0 540 600 = UNKNOWN, "
                + "count 0 = 0");
        says("BAD: slip, to less than from, or more than 60 more",
            each("church 0 0 # 0 0 = BAD", NOT_OF_TEN) + ", church 0 0 0 1 0 = BAD, church 0 0 0 599 0 = BAD, "
                + "church 0 0 0 599 598 = BAD",
            "church 0 0 0 0 61 = BAD, church 0 0 0 538 599 = BAD, church 0 0 0 0 599 = BAD, count 0 = 0, "
                + "church 0 0 0 0 60 = 0, church 0 0 0 539 599 = 1");
        says("FULL: 10",
            count(10, "church 0 0 0 0 0 = #") + ", church 0 0 0 0 0 = FULL, church 3 359 9 539 599 = FULL, "
                + "count 0 = 10, about 9 1 = 0",
            count(10, "church 0 0 0 0 0 = #") + ", church 0 0 10 0 0 = BAD, church 4 0 0 0 0 = UNKNOWN",
            "keep 0 = 0, " + count(10, "church 0 0 0 0 0 = #") + ", church 0 0 0 0 0 = FULL, again 0 = 0, "
                + "church 0 0 0 0 0 = 0");
        promise(15);
        says("a SAINT's DATE (what = 0), a STREET (1), an OLD wall (2), or NONE: what it had",
            CHURCH + "tell 0 0 0 = NONE, tell 0 0 363 = 0, tell 0 0 NONE = 363, tell 0 0 NONE = NONE, "
                + "tell 0 1 0 = NONE, tell 0 1 359 = 0, tell 0 1 NONE = 359, tell 0 2 0 = NONE, tell 0 2 359 = 0, "
                + "tell 0 2 NONE = 359, tell 0 1 NONE = NONE, tell 0 2 NONE = NONE");
        says("UNKNOWN: church",
            "tell 0 0 0 = UNKNOWN, " + CHURCH + each("tell # 0 0 = UNKNOWN", NO_CHURCH_OF_ONE),
            CHURCH + each("tell # 3 999 = UNKNOWN", NO_CHURCH_OF_ONE));
        says("BAD: what, v",
            CHURCH + each("tell 0 # 0 = BAD", Integer.MIN_VALUE, -9, -1, 3, Integer.MAX_VALUE) + ", "
                + each("tell 0 # NONE = BAD", -1, 3),
            CHURCH + each("tell 0 0 # = BAD", Integer.MIN_VALUE, -10, -8, -1, 364, Integer.MAX_VALUE)
                + ", tell 0 0 360 = NONE",
            CHURCH + each("tell 0 1 # = BAD", Integer.MIN_VALUE, -10, -8, -1, 360, 363, Integer.MAX_VALUE),
            CHURCH + each("tell 0 2 # = BAD", Integer.MIN_VALUE, -10, -8, -1, 360, 363, Integer.MAX_VALUE));
        promise(16);
        says("LAND (what = 0), LINE (1), SLIP (2), from (3), to (4), SAINT (5), STREET (6), OLD wall (7), the CHOIR's "
            + "LINE (8), its from (9), its to (10)",
            "church 3 359 9 539 598 = 0, tell 0 0 363, tell 0 1 358, tell 0 2 357, choir 0 356 599 599, "
                + "about 0 0 = 3, about 0 1 = 359, about 0 2 = 9, about 0 3 = 539, about 0 4 = 598, "
                + "about 0 5 = 363, about 0 6 = 358, about 0 7 = 357, about 0 8 = 356, about 0 9 = 599, "
                + "about 0 10 = 599",
            "church 0 0 0 0 0 = 0, about 0 0 = 0, about 0 1 = 0, about 0 2 = 0, about 0 3 = 0, about 0 4 = 0, "
                + "about 0 5 = NONE, about 0 6 = NONE, about 0 7 = NONE, about 0 8 = NONE, about 0 9 = NONE, "
                + "about 0 10 = NONE");
        says("UNKNOWN;",
            "about 0 0 = UNKNOWN, " + CHURCH + each("about # 0 = UNKNOWN", NO_CHURCH_OF_ONE),
            each("about # 11 = UNKNOWN", NO_CHURCH_OF_ONE));
        says("BAD.", CHURCH + each("about 0 # = BAD", NO_ELEVEN));
    }

    private void linesAndHits() {
        promise(17);
        says("The LINE by a RULE in a YEAR (any)",
            "church 0 90 0 300 310 = 0, tell 0 0 0, tell 0 1 1, tell 0 2 2, line 0 0 0 = 90, line 1 0 0 = 90, "
                + "line 1 0 599 = 89, line 2 0 599 = 90, line 3 0 0 = 1, line 4 0 599 = 2, line 5 0 0 = 90, "
                + "line 5 0 599 = 89");
        says("NONE.",
            CHURCH + "line 1 0 0 = NONE, line 3 0 0 = NONE, line 4 0 0 = NONE, line 0 0 0 = 90, line 2 0 0 = 90, "
                + "line 5 0 0 = 90");
        says("UNKNOWN: rule, church, year",
            CHURCH + each("line # 0 0 = UNKNOWN", NO_RULE) + ", " + each("line 0 # 0 = UNKNOWN", NO_CHURCH_OF_ONE)
                + ", " + each("line 0 0 # = UNKNOWN", NO_YEAR),
            "line 0 0 0 = UNKNOWN",
            CHURCH + each("line 3 0 # = UNKNOWN", NO_YEAR));
        promise(18);
        says("In how many of its YEARS a RULE HITS a CHURCH",
            "church 0 90 0 0 60 = 0, hits 0 0 = 61, hits 1 0 = 0, hits 2 0 = 61, hits 3 0 = 0, hits 4 0 = 0, "
                + "hits 5 0 = 61, church 0 90 0 599 599 = 1, hits 0 1 = 1",
            ONE_YEAR + "church 0 100 0 41 101 = 0, hits 2 0 = 1, church 0 100 0 101 161 = 1, hits 2 1 = 1, "
                + "church 0 100 0 102 162 = 2, hits 2 2 = 0, church 0 90 0 100 102 = 3, hits 2 3 = 2");
        says("UNKNOWN.",
            "hits 0 0 = UNKNOWN, " + CHURCH + each("hits # 0 = UNKNOWN", NO_RULE) + ", "
                + each("hits 0 # = UNKNOWN", NO_CHURCH_OF_ONE));
        promise(19);
        says("The i-th of these YEARS (from 0)",
            "church 0 90 0 0 60 = 0, hit 0 0 0 = 0, hit 0 0 1 = 1, hit 0 0 60 = 60, church 0 90 0 599 599 = 1, "
                + "hit 0 1 0 = 599",
            ONE_YEAR + "church 0 90 0 100 103 = 0, hit 2 0 0 = 100, hit 2 0 1 = 102, hit 2 0 2 = 103");
        says("NONE: there is none such",
            "church 0 90 0 0 60 = 0, " + each("hit 0 0 # = NONE", Integer.MIN_VALUE, -9, -1, 61, Integer.MAX_VALUE)
                + ", hit 1 0 0 = NONE",
            ONE_YEAR + "church 0 100 0 101 101 = 0, hit 2 0 0 = 101, hit 2 0 1 = NONE, hit 0 0 0 = NONE, "
                + "hit 3 0 0 = NONE");
        says("UNKNOWN.",
            "hit 0 0 0 = UNKNOWN, " + CHURCH + each("hit # 0 0 = UNKNOWN", NO_RULE) + ", "
                + each("hit 0 # 0 = UNKNOWN", NO_CHURCH_OF_ONE) + ", hit 6 0 -1 = UNKNOWN, hit 0 1 99 = UNKNOWN");
        promise(20);
        says("RULES that EXPLAIN a CHURCH, as bits",
            "church 0 200 0 0 60 = 0, explain 0 = 0, church 0 90 0 0 60 = 1, explain 1 = 37, tell 1 0 0, "
                + "explain 1 = 39, tell 1 1 90, explain 1 = 47, tell 1 2 90, explain 1 = 63, feast 91, "
                + "explain 1 = 31, " + NO_WEIGHTS + "explain 1 = 31");
        says("UNKNOWN.", "explain 0 = UNKNOWN, " + CHURCH + each("explain # = UNKNOWN", NO_CHURCH_OF_ONE));
    }

    private void chancesAndOdds() {
        promise(21);
        says("The chance of a CHURCH by a RULE",
            "church 0 90 0 0 0 = 0, chance 0 0 true = 1, chance 0 0 false = 1, chance 1 0 true = 0, "
                + "chance 1 0 false = 1",
            ONE_YEAR + "church 0 109 9 41 101 = 0, chance 2 0 true = 1, chance 2 0 false = 1159, "
                + "church 0 90 9 100 160 = 1, chance 0 1 false = 19");
        says("UNKNOWN.",
            CHURCH + each("chance # 0 true = UNKNOWN", NO_RULE) + ", " + each("chance # 0 false = UNKNOWN", NO_RULE),
            CHURCH + each("chance 0 # true = UNKNOWN", NO_CHURCH_OF_ONE) + ", "
                + each("chance 0 # false = UNKNOWN", NO_CHURCH_OF_ONE));
        promise(22);
        says("WEIGHT of a RULE: what it was",
            count(6, "weight # 0 = 1") + ", " + count(6, "weight # 9 = 0") + ", " + count(6, "weight # # = 9"));
        says("UNKNOWN;", each("weight # 0 = UNKNOWN", NO_RULE) + ", " + each("weight # 10 = UNKNOWN", NO_RULE));
        says("BAD.",
            each("weight 0 # = BAD", NOT_OF_TEN) + ", " + each("weight 5 # = BAD", NOT_OF_TEN) + ", weight 5 0 = 1");
        promise(23);
        says("THE ODDS.",
            CHURCH + "odds 0 0 true = 1, odds 0 0 false = 3, odds 1 0 true = 0, odds 1 0 false = 1, weight 2 0, "
                + "weight 5 0, odds 0 0 true = 1, odds 0 0 false = 1",
            CHURCH + "tell 0 0 0, tell 0 1 90, tell 0 2 90, " + count(6, "weight # 9 = 1") + ", odds 5 0 true = 1, "
                + "odds 5 0 false = 6");
        says("UNKNOWN;",
            CHURCH + each("odds # 0 true = UNKNOWN", NO_RULE) + ", " + each("odds # 0 false = UNKNOWN", NO_RULE),
            CHURCH + each("odds 0 # true = UNKNOWN", NO_CHURCH_OF_ONE) + ", "
                + each("odds 0 # false = UNKNOWN", NO_CHURCH_OF_ONE),
            CHURCH + NO_WEIGHTS + "odds 6 0 true = UNKNOWN, odds 0 1 true = UNKNOWN");
        says("LATE: of no RULE is anything left",
            "church 0 200 0 0 60 = 0, " + count(6, "odds # 0 true = LATE") + ", " + count(6, "odds # 0 false = LATE")
                + ", tell 0 1 200, odds 3 0 true = 1, weight 3 0, odds 3 0 true = LATE",
            CHURCH + NO_WEIGHTS + count(6, "odds # 0 true = LATE") + ", " + count(6, "odds # 0 false = LATE")
                + ", weight 1 9, odds 1 0 true = LATE, weight 5 1, odds 5 0 true = 1");
        promise(24);
        says("THE BEST RULE.",
            CHURCH + "best 0 = 0, weight 5 9, best 0 = 5, weight 0 9, best 0 = 0, weight 1 9, best 0 = 0, "
                + "weight 0 0, weight 5 0, best 0 = 2");
        says("UNKNOWN;",
            "best 0 = UNKNOWN, " + CHURCH + each("best # = UNKNOWN", NO_CHURCH_OF_ONE) + ", " + NO_WEIGHTS
                + "best 1 = UNKNOWN");
        says("LATE.",
            CHURCH + NO_WEIGHTS + "best 0 = LATE, weight 1 9, weight 3 9, weight 4 9, best 0 = LATE, weight 5 1, "
                + "best 0 = 5",
            "church 0 200 0 0 0, best 0 = LATE");
    }

    private void fewestToLook() {
        promise(25);
        says("FEWEST, as bits",
            "fewest = 0, church 0 200 0 0 0, fewest = 0, church 0 90 0 0 0, fewest = 1, tell 0 2 200, fewest = 17",
            "church 0 130 0 0 0, tell 0 0 273, fewest = 2, tell 0 1 130, fewest = 2, tell 0 0 NONE, fewest = 8, "
                + "tell 0 1 NONE, tell 0 2 130, fewest = 16, tell 0 2 NONE, feast 273, fewest = 32",
            "read 000+30 = 1, feast 91, church 0 90 0 0 0, church 0 130 0 0 0, tell 1 0 273, church 0 120 0 0 0, "
                + "church 0 200 0 0 0, tell 3 1 200, church 0 210 0 0 0, tell 4 2 210, church 0 50 0 0 0, "
                + "fewest = 63");
        promise(26);
        says("TO LOOK;",
            "church 0 200 0 0 0, look = 0, church 0 90 0 0 0, look = 1, church 0 90 0 0 0, look = 1, tell 2 0 0, "
                + "look = 2");
        says("NONE: there are no CHURCHES",
            "look = NONE, keep 0 = 0, church 0 200 0 0 0 = 0, look = 0, again 0 = 0, look = NONE");
        promise(27);
        says("DAYS OF A LINE: how many",
            "church 0 50 0 0 0, days 0 = 1, church 0 49 0 0 0, days 1 = 0, church 0 90 0 0 0, days 2 = 10, "
                + "church 0 270 9 0 0, days 3 = 0");
        says("UNKNOWN.", "days 0 = UNKNOWN, " + CHURCH + each("days # = UNKNOWN", NO_CHURCH_OF_ONE));
        promise(28);
        says("Whether a DAY is one of them: 1, 0",
            CHURCH + "on 0 0 = 1, on 0 2 = 1, on 0 3 = 0, on 0 179 = 0, on 0 180 = 1, on 0 184 = 1, on 0 185 = 0, "
                + "on 0 361 = 0, on 0 362 = 1, on 0 363 = 1");
        says("UNKNOWN.", CHURCH + each("on # 0 = UNKNOWN", NO_CHURCH_OF_ONE) + ", " + each("on 0 # = UNKNOWN", NO_DAY));
    }

    /** Ten churches, each with a saint on whose day alone of these the sun comes up where it looks. */
    private static String tenWithTheirOwn() {
        int[] dates = {91, 73, 55, 37, 19, 0, 201, 219, 237, 255};
        StringBuilder calls = new StringBuilder();
        for (int i = 0; i < 10; i++) {
            calls.append("church 0 ").append(50 + 8 * i).append(" 0 0 0 = ").append(i);
            calls.append(", tell ").append(i).append(" 0 ").append(dates[i]).append(" = NONE, ");
        }
        return calls.toString();
    }

    private void saints() {
        String tenAlike = count(10, "church 0 90 0 0 0 = #") + ", " + count(10, "tell # 0 0 = NONE") + ", ";
        promise(29);
        says("OWN HITS.",
            "own = 0, " + CHURCH + "own = 0, tell 0 0 91, own = 0, tell 0 0 0, own = 1, " + NO_WEIGHTS + "own = 1",
            tenAlike + "own = 10, tell 9 0 91, own = 9",
            tenWithTheirOwn() + "own = 10");
        promise(30);
        says("How many ways to deal SAINTS have just k OWN HITS",
            "deals 0 = 1, " + each("deals # = 0", 1, 2, 3, 4, 5, 6, 7, 8, 9, 10),
            CHURCH + "deals 0 = 1, tell 0 0 0, deals 0 = 0, deals 1 = 1, tell 0 0 91, deals 0 = 1, deals 1 = 0",
            tenAlike + "deals 10 = 3628800, " + count(10, "deals # = 0"),
            tenAlike + count(10, "tell # 0 91 = 0") + ", deals 0 = 3628800, deals 1 = 0, deals 10 = 0",
            // nine cannot be at home without the tenth; eight are in 45 ways (two change), none in 1334961
            tenWithTheirOwn() + "deals 10 = 1, deals 9 = 0, deals 8 = 45, deals 7 = 240, deals 0 = 1334961, "
                + "deals 1 = 1334960");
        says("BAD: k (0 .. 10)", each("deals # = BAD", NO_ELEVEN) + ", deals 0 = 1, deals 10 = 0");
        promise(31);
        says("DEALT ANEW.",
            "dealt true = 1, dealt false = 1, " + CHURCH + "dealt true = 1, dealt false = 1, tell 0 0 0, "
                + "dealt true = 1, dealt false = 1",
            tenWithTheirOwn() + "dealt true = 1, dealt false = 3628800, tell 0 0 73, tell 1 0 91, dealt true = 23, "
                + "dealt false = 1814400",
            tenAlike + "dealt true = 1, dealt false = 1");
    }

    private void needles() {
        promise(32);
        says("GOES WITH THE NEEDLE.",
            "goes = 0, " + CHURCH + "goes = 0",
            "read 000+00;100+40 = 2, " + count(10, "church 0 8# 0 #6 #6 = #") + ", goes = 45",
            "read 000+00;100+40 = 2, church 0 89 0 6 6 = 0, " + count(9, "church 0 8# 0 #6 #6 = ?") + ", goes = 28");
        promise(33);
        says("BY LUCK.",
            CHURCH + "luck true = 1, luck false = 1",
            "read 000+00;100+20 = 2, church 0 80 0 0 0, church 0 81 0 100 100, luck true = 1, luck false = 2");
        says("LATE: there are none, or more than 6",
            "luck true = LATE, luck false = LATE",
            count(6, "church 0 90 0 0 0 = #") + ", luck true = 1, luck false = 1, church 0 90 0 0 0 = 6, "
                + "luck true = LATE, luck false = LATE",
            count(10, "church 0 90 0 0 0 = #") + ", luck true = LATE, luck false = LATE");
        promise(34);
        says("how many YEARS (what = 0), the first (1), the last (2; both NONE without), how many SPANS (3)",
            CHURCH + "dated 0 0 = 600, dated 0 1 = 0, dated 0 2 = 599, dated 0 3 = 1",
            "church 0 91 0 0 0, dated 0 0 = 0, dated 0 1 = NONE, dated 0 2 = NONE, dated 0 3 = 0",
            ONE_YEAR + "church 0 100 0 0 0, dated 0 0 = 1, dated 0 1 = 101, dated 0 2 = 101, dated 0 3 = 1, "
                + "church 0 90 0 0 0, dated 1 0 = 599, dated 1 3 = 2");
        says("UNKNOWN;",
            "dated 0 0 = UNKNOWN, " + CHURCH + each("dated # 0 = UNKNOWN", NO_CHURCH_OF_ONE)
                + ", dated 1 4 = UNKNOWN");
        says("BAD.", CHURCH + each("dated 0 # = BAD", NO_FOUR));
        promise(35);
        says("as bits of CHURCHES (0: there are none)",
            "master 0 0 = 0, master 180 599 = 0, " + CHURCH + "master 0 0 = 1, keep 0 = 1, church 0 90 0 0 0, "
                + "master 0 0 = 3, again 0 = 1, master 0 0 = 1",
            count(10, "church 0 90 0 0 0 = #") + ", master 0 0 = 1023");
        says("BAD: x (0 .. 180), y (0 .. 599)",
            each("master # 0 = BAD", Integer.MIN_VALUE, -9, -1, 181, Integer.MAX_VALUE) + ", "
                + each("master 0 # = BAD", NO_YEAR) + ", master 180 599 = 0, master 181 600 = BAD");
    }

    private void choirs() {
        promise(36);
        says("A CHOIR with a LINE, built in YEARS (as church()); its LINE was that (NONE: none)",
            "church 0 90 0 100 110 = 0, choir 0 0 111 111 = NONE, choir 0 359 111 171 = 0, choir 0 5 539 599 = 359, "
                + "about 0 8 = 5, about 0 9 = 539, about 0 10 = 599, count 2 = 1");
        says("UNKNOWN: church, degree, years",
            "choir 0 0 1 1 = UNKNOWN, " + CHURCH + each("choir # 0 1 1 = UNKNOWN", NO_CHURCH_OF_ONE) + ", "
                + each("choir 0 # 1 1 = UNKNOWN", NO_DEGREE),
            CHURCH + each("choir 0 0 # 599 = UNKNOWN", NO_YEAR) + ", " + each("choir 0 0 599 # = UNKNOWN", NO_YEAR)
                + ", " + each("choir 0 0 # # = UNKNOWN", NO_YEAR) + ", choir 0 0 540 600 = UNKNOWN, count 2 = 0");
        says("BAD: to",
            CHURCH + "choir 0 0 2 1 = BAD, choir 0 0 599 0 = BAD, choir 0 0 1 62 = BAD, choir 0 0 538 599 = BAD, "
                + "choir 0 0 1 599 = BAD, count 2 = 0, choir 0 0 1 61 = NONE, choir 0 0 1 1 = 0");
        says("LATE: from is not later than the CHURCH's to",
            "church 0 90 0 100 110 = 0, choir 0 0 110 111 = LATE, choir 0 0 100 110 = LATE, choir 0 0 0 0 = LATE, "
                + "choir 0 0 99 159 = LATE, count 2 = 0, choir 0 0 111 112 = NONE, choir 0 1 110 110 = LATE, "
                + "about 0 8 = 0",
            "church 0 90 0 599 599 = 0, choir 0 0 599 599 = LATE");
        promise(37);
        says("By how much it BENDS",
            CHURCH + "choir 0 90 1 1, bends 0 = 0, choir 0 270 1 1, bends 0 = 180, choir 0 89 1 1, bends 0 = 1, "
                + "choir 0 271 1 1, bends 0 = 179");
        says("UNKNOWN;", "bends 0 = UNKNOWN, " + CHURCH + each("bends # = UNKNOWN", NO_CHURCH_OF_ONE));
        says("LATE: there is none",
            CHURCH + "bends 0 = LATE, choir 0 0 0 0 = LATE, bends 0 = LATE, keep 0 = 1, choir 0 0 1 1 = NONE, "
                + "bends 0 = 90, again 0 = 1, bends 0 = LATE");
        promise(38);
        says("WHY;",
            "church 0 200 0 0 0, tell 0 1 90, tell 0 2 90, tell 0 0 0, choir 0 90 1 1, why 0 = 0, read 000+20 = 1, "
                + "choir 0 110 1 1, why 0 = 2",
            "church 0 200 0 0 0, tell 0 0 91, tell 0 1 50, choir 0 50 1 1, why 0 = 1, tell 0 0 NONE, why 0 = 3, "
                + "tell 0 1 NONE, tell 0 2 50, why 0 = 4, tell 0 2 NONE, feast 91, why 0 = 5");
        says("NONE.",
            CHURCH + "choir 0 90 1 1, why 0 = NONE, choir 0 200 1 1, why 0 = NONE",
            "church 0 200 0 0 0, choir 0 210 1 1, why 0 = NONE");
        says("UNKNOWN;", "why 0 = UNKNOWN, " + CHURCH + each("why # = UNKNOWN", NO_CHURCH_OF_ONE));
        says("LATE.", CHURCH + "why 0 = LATE, choir 0 0 0 0 = LATE, why 0 = LATE, choir 0 0 1 1 = NONE, why 0 = NONE");
    }

    private void changedSaints() {
        promise(39);
        says("WHEN.",
            "church 0 90 0 540 599 = 0, tell 0 0 178, when 0 91 540 = 0, when 0 91 599 = 59, when 0 178 0 = 60, "
                + "when 0 91 541 = 1",
            "church 0 90 0 0 60 = 0, tell 0 0 91, when 0 0 0 = 61, when 0 0 1 = 60, when 0 0 60 = 1, when 0 0 61 = 0");
        says("UNKNOWN: church, date, year",
            CHURCH + "tell 0 0 0, " + each("when # 0 0 = UNKNOWN", NO_CHURCH_OF_ONE) + ", "
                + each("when 0 # 0 = UNKNOWN", NO_DAY) + ", " + each("when 0 0 # = UNKNOWN", NO_YEAR),
            CHURCH + "when 0 364 0 = UNKNOWN, when 0 0 600 = UNKNOWN",
            "when 0 0 0 = UNKNOWN");
        says("LATE: it has no SAINT",
            CHURCH + "when 0 0 0 = LATE, tell 0 0 0, when 0 0 0 = 1, tell 0 0 NONE, when 0 0 0 = LATE");
        promise(40);
        says("The YEAR (0 .. 600) from which on another DATE would give most such YEARS, the least of these",
            "church 0 90 0 100 110 = 0, tell 0 0 91, since 0 0 = 0, since 0 45 = 0, since 0 91 = 0, tell 0 0 0, "
                + "since 0 91 = 111, since 0 0 = 0, since 0 363 = 0",
            "church 0 90 0 540 599 = 0, tell 0 0 178, since 0 91 = 600, since 0 178 = 0, tell 0 0 91, "
                + "since 0 178 = 0",
            "church 0 90 0 599 599 = 0, tell 0 0 178, since 0 91 = 600, church 0 90 0 0 0 = 1, tell 1 0 0, "
                + "since 1 91 = 1, since 1 0 = 0",
            "church 0 89 0 115 125 = 0, tell 0 0 4, since 0 2 = 120, when 0 2 120 = 11, since 0 91 = 120, "
                + "since 0 4 = 0, since 0 3 = 0");
        says("UNKNOWN: church, date",
            CHURCH + "tell 0 0 0, " + each("since # 0 = UNKNOWN", NO_CHURCH_OF_ONE) + ", "
                + each("since 0 # = UNKNOWN", NO_DAY),
            CHURCH + "since 0 364 = UNKNOWN",
            "since 0 0 = UNKNOWN");
        says("LATE.", CHURCH + "since 0 0 = LATE, tell 0 0 91, since 0 0 = 0, tell 0 0 NONE, since 0 0 = LATE");
    }

    private void slotsAndCounts() {
        promise(41);
        says("All CHURCHES are kept: how many",
            "keep 0 = 0, keep 1 = 0, " + CHURCH + "keep 0 = 1, keep 0 = 1, church 0 0 0 0 0, keep 0 = 2, keep 1 = 2",
            count(10, "church 0 # 0 0 0 = #") + ", keep 1 = 10, keep 0 = 10");
        says("UNKNOWN.", each("keep # = UNKNOWN", NO_SLOT) + ", again 0 = LATE, again 1 = LATE");
        promise(42);
        says("They are as they were kept: how many",
            "church 0 5 0 0 0, keep 0 = 1, tell 0 0 9, church 0 6 0 0 0, keep 1 = 2, keep 1 = 2, again 0 = 1, "
                + "about 0 5 = NONE, about 1 1 = UNKNOWN, again 1 = 2, about 0 5 = 9, about 1 1 = 6, again 1 = 2, "
                + "tell 0 0 8 = 9, again 1 = 2, about 0 5 = 9, tell 0 0 7, keep 1 = 2, again 1 = 2, about 0 5 = 7, "
                + "again 0 = 1, about 0 5 = NONE",
            count(10, "church 0 # 0 0 # = #") + ", keep 0 = 10, " + count(10, "tell # 1 #") + ", choir 9 0 10 10, "
                + "again 0 = 10, about 9 1 = 9, about 9 4 = 9, about 9 6 = NONE, about 9 8 = NONE, "
                + "about 0 6 = NONE, church 0 0 0 0 0 = FULL",
            "keep 1 = 0, church 3 9 9 9 9, keep 0 = 1, again 1 = 0, church 1 1 1 1 1, again 0 = 1, about 0 0 = 3, "
                + "about 0 1 = 9, about 0 2 = 9, about 0 3 = 9, about 0 4 = 9",
            // read so: what was kept while there were no CHURCHES was kept
            "keep 0 = 0, church 0 0 0 0 0 = 0, again 0 = 0, count 0 = 0, about 0 0 = UNKNOWN");
        says("UNKNOWN;",
            each("again # = UNKNOWN", NO_SLOT),
            CHURCH + "keep 0 = 1, keep 1 = 1, " + each("again # = UNKNOWN", NO_SLOT));
        says("LATE: none were kept",
            "again 0 = LATE, again 1 = LATE",
            CHURCH + "again 0 = LATE, count 0 = 1, keep 0 = 1, again 1 = LATE, again 0 = 1, again 1 = LATE",
            CHURCH + "keep 1 = 1, again 0 = LATE, again 1 = 1");
        promise(43);
        says("0 CHURCHES, 1 those that have a SAINT, 2 CHOIRS, 3 those that no RULE EXPLAINS, 4 ENTRIES of THE BOOK, "
            + "5 bytes of THE TEXT",
            count(6, "count # = 0"),
            count(10, "church 0 200 0 0 0 = #") + ", count 0 = 10, count 3 = 10, " + count(10, "tell # 0 0 = NONE")
                + ", " + count(10, "choir # 90 1 1 = NONE") + ", count 1 = 10, count 2 = 10, count 3 = 10, read "
                + LONGEST + " = 7, count 4 = 7, count 5 = 48, " + count(10, "tell # 0 NONE = 0") + ", count 1 = 0, "
                + count(9, "tell # 2 200 = NONE") + ", count 3 = 1, tell 9 1 200, count 3 = 0, wipe = 48, "
                + "count 4 = 7, count 5 = 0",
            CHURCH + "tell 0 0 0 = NONE, count 1 = 1, count 3 = 0, " + NO_WEIGHTS + "count 3 = 0");
        says("BAD.", each("count # = BAD", NO_COUNT));
    }

    private void all() {
        newObject();
        sunAndLands();
        theText();
        theBook();
        aChurch();
        linesAndHits();
        chancesAndOdds();
        fewestToLook();
        saints();
        needles();
        choirs();
        changedSaints();
        slotsAndCounts();
        end();
    }

    public static void main(String[] args) {
        new PromiseEdgesTest().all();
    }
}
