/** Each sentence of the document's terms that names a boundary, by a test that bears its words. */
public final class TermsEdgesTest extends Sentences {
    private TermsEdgesTest() {
        super("TermsEdgesTest");
    }

    private static String lastOf512Calls() {
        StringBuilder calls = new StringBuilder("church 3 359 9 539 599 = 0");
        for (int i = 0; i < 510; i++) calls.append(", tell 0 1 ").append(i % 360);
        return calls + ", about 0 6 = 149";
    }

    private void whatItIs() {
        in("What it is");
        says("DEGREES 0 ..",
            "off 0 0 = 0, off -1 0 = UNKNOWN, off 0 -1 = UNKNOWN",
            "church 0 0 0 0 0 = 0, about 0 1 = 0, tell 0 1 0 = NONE, tell 0 2 0 = NONE, line 3 0 0 = 0, "
                + "line 4 0 0 = 0",
            "church 0 0 0 0 0 = 0, choir 0 0 1 1 = NONE, about 0 8 = 0, choir 0 -1 1 1 = UNKNOWN",
            "church 0 -1 0 0 0 = UNKNOWN, church 0 0 0 0 0 = 0, tell 0 1 -1 = BAD, tell 0 2 -1 = BAD");
        says("An object is used for at most 512 calls after it has been made",
            lastOf512Calls(),
            count(511, "write 8 0 = ?") + ", count 5 = 48",
            count(511, "keep 0 = 0") + ", again 0 = 0");
        says("what later calls answer is free",
            count(600, "write 8 # = ?") + ", " + count(600, "church 0 # 0 0 0 = ?") + ", deals 0 = ?, luck true = ?");
        in("The public face");
        says("UNKNOWN = -1, BAD = -2, LATE = -3, FULL = -4, NONE = -9");
        is("UNKNOWN", EastNearly.UNKNOWN, -1);
        is("BAD", EastNearly.BAD, -2);
        is("LATE", EastNearly.LATE, -3);
        is("FULL", EastNearly.FULL, -4);
        is("NONE", EastNearly.NONE, -9);
    }

    private void degreesYearsDays() {
        in("Terms");
        says("359 (90 is east)",
            "off 359 359 = 0, off 360 359 = UNKNOWN, off 359 360 = UNKNOWN",
            "church 0 359 0 0 0 = 0, church 0 360 0 0 0 = UNKNOWN, tell 0 1 359 = NONE, tell 0 1 360 = BAD",
            "church 0 359 0 0 0 = 0, tell 0 2 359 = NONE, tell 0 2 360 = BAD, line 4 0 0 = 359",
            "church 0 90 0 0 0 = 0, choir 0 359 1 1 = NONE, choir 0 360 1 1 = UNKNOWN, about 0 8 = 359, "
                + "line 0 0 0 = 90");
        says("two are OFF by the shorter way round",
            "off 0 180 = 180, off 180 0 = 180, off 0 181 = 179, off 181 0 = 179, off 0 179 = 179, off 1 181 = 180",
            "off 0 359 = 1, off 359 0 = 1, off 350 10 = 20, off 10 350 = 20, off 90 270 = 180, off 89 270 = 179");
        says("YEARS 0 .. 599.",
            "needle 0 = 100, needle 599 = 100, " + each("needle # = UNKNOWN", NO_YEAR),
            "day 5 0 = 5, day 5 599 = 9, " + each("day 5 # = UNKNOWN", NO_YEAR),
            "church 0 90 0 0 0 = 0, church 0 90 0 599 599 = 1, " + each("church 0 90 0 # 599 = UNKNOWN", NO_YEAR),
            each("church 0 90 0 599 # = UNKNOWN", NO_YEAR) + ", " + each("church 0 90 0 # # = UNKNOWN", NO_YEAR),
            "church 0 90 0 0 0 = 0, line 0 0 0 = 90, line 0 0 599 = 90, " + each("line 0 0 # = UNKNOWN", NO_YEAR),
            "church 0 90 0 0 0 = 0, choir 0 90 599 599 = NONE, " + each("choir 0 90 # 599 = UNKNOWN", NO_YEAR),
            "church 0 90 0 0 0 = 0, " + each("choir 0 90 599 # = UNKNOWN", NO_YEAR),
            "church 0 90 0 0 0 = 0, tell 0 0 0, when 0 0 0 = 1, when 0 0 599 = 1, "
                + each("when 0 0 # = UNKNOWN", NO_YEAR));
        says("DAYS 0 .. 363 are the sun's (0: spring)",
            "sun 0 = 90, sun 363 = 90, " + each("sun # = UNKNOWN", NO_DAY),
            "rise 0 0 = 90, rise 0 363 = 90, " + each("rise 0 # = UNKNOWN", NO_DAY),
            "church 0 90 0 0 0 = 0, on 0 0 = 1, on 0 363 = 1, " + each("on 0 # = UNKNOWN", NO_DAY));
    }

    private void theSun() {
        says("THE SUN comes up on DAY d, over a flat edge, at 90 less x (d 0 .. 182) or 90 and x (else)",
            "sun 3 = 89, sun 179 = 89, sun 180 = 90, sun 182 = 90, sun 183 = 90, sun 184 = 90, sun 185 = 91, "
                + "sun 361 = 91");
        says("x is 40 times e by 91 (cut)",
            "sun 0 = 90, sun 2 = 90, sun 3 = 89, sun 4 = 89, sun 5 = 88, sun 6 = 88, sun 7 = 87, sun 9 = 87, "
                + "sun 10 = 86",
            "sun 88 = 52, sun 89 = 51, sun 90 = 51, sun 91 = 50, sun 185 = 91, sun 186 = 91, sun 272 = 129, "
                + "sun 273 = 130");
        says("e how many DAYS it is to the nearest of DAYS 0, 182, 364.",
            "sun 1 = 90, sun 45 = 71, sun 90 = 51, sun 91 = 50, sun 92 = 51, sun 137 = 71, sun 181 = 90, "
                + "sun 182 = 90",
            "sun 227 = 109, sun 272 = 129, sun 273 = 130, sun 274 = 129, sun 359 = 92, sun 360 = 91, sun 362 = 90");
    }

    private void theEdge() {
        says("LANDS 0 .. 3 have an EDGE",
            "edge 0 5 9 = 0, edge 3 5 8 = 0, rise 0 91 = 59, rise 1 91 = 50, rise 2 91 = 50, rise 3 91 = 58",
            each("edge # 5 9 = UNKNOWN", NO_LAND) + ", " + each("rise # 91 = UNKNOWN", NO_LAND),
            "church 0 90 0 0 0 = 0, church 3 90 0 0 0 = 1, about 1 0 = 3, "
                + each("church # 90 0 0 0 = UNKNOWN", NO_LAND));
        says("a HEIGHT (0 .. 9; 0 at first)",
            count(36, "edge 0 # 0 = 0"),
            count(36, "edge 1 # 9 = 0"),
            count(36, "edge 2 # 9 = 0"),
            count(36, "edge 3 # 9 = 0"),
            "edge 0 5 9 = 0, " + each("edge 0 5 # = BAD", NOT_OF_TEN) + ", edge 0 5 0 = 9, rise 0 91 = 50");
        // the sun is at 59 on the day 71, at 60 on the day 69; at 129 on the day 272, at 130 on the day 273
        says("for each ten DEGREES (0 .. 35: DEGREES by ten, cut)",
            "edge 0 0 9 = 0, edge 0 35 9 = 0, "
                + each("edge 0 # 9 = UNKNOWN", Integer.MIN_VALUE, -1, 36, Integer.MAX_VALUE),
            "sun 71 = 59, sun 69 = 60, edge 0 5 1 = 0, rise 0 91 = 51, rise 0 71 = 60, rise 0 69 = 60",
            "edge 0 6 1 = 0, rise 0 91 = 50, rise 0 71 = 59, rise 0 69 = 61",
            "edge 0 13 1 = 0, rise 0 272 = 129, rise 0 273 = 131",
            "edge 0 12 1 = 0, rise 0 272 = 130, rise 0 273 = 130");
        says("with z from 0 on the sun is at z more DEGREES, z high",
            "rise 0 91 = 50, edge 0 5 1 = 0, rise 0 91 = 51, edge 0 5 5 = 1, rise 0 91 = 55, edge 0 5 9 = 5, "
                + "rise 0 91 = 59",
            "edge 0 13 9 = 0, edge 0 12 9 = 0, rise 0 273 = 139, rise 0 272 = 138, rise 0 182 = 90, edge 0 9 9 = 0, "
                + "rise 0 182 = 99");
        says("the first such DEGREE at which z is the EDGE's HEIGHT or more",
            "sun 80 = 55, edge 0 5 4 = 0, rise 0 80 = 59, edge 0 5 5 = 4, rise 0 80 = 60",
            "edge 0 5 9 = 0, edge 0 6 2 = 0, rise 0 80 = 60, edge 0 6 5 = 2, rise 0 80 = 60, edge 0 6 6 = 5, "
                + "rise 0 80 = 61",
            "edge 0 5 9 = 0, edge 0 6 9 = 0, rise 0 80 = 64, edge 0 5 0 = 9, rise 0 80 = 55");
    }

    private void theCalendars() {
        says("DATES 0 .. 363.",
            "day 0 0 = 0, day 363 0 = 363, " + each("day # 0 = UNKNOWN", NO_DAY),
            "feast 363 = 0, feast 0 = 363, " + each("feast # = UNKNOWN", NO_DAY),
            "church 0 90 0 0 0 = 0, tell 0 0 363 = NONE, tell 0 0 0 = 363, tell 0 0 364 = BAD, tell 0 0 -1 = BAD",
            "church 0 90 0 0 0 = 0, tell 0 0 91, when 0 0 0 = 1, when 0 363 0 = 1, "
                + each("when 0 # 0 = UNKNOWN", NO_DAY),
            "church 0 90 0 0 0 = 0, tell 0 0 91, since 0 0 = 0, since 0 363 = 0, "
                + each("since 0 # = UNKNOWN", NO_DAY));
        says("THE SWITCH is a YEAR 0 .. 600 (600 at first)",
            "switched 0 = 600, switched 600 = 0, switched 599 = 600",
            each("switched # = BAD", Integer.MIN_VALUE, -9, -1, 601, Integer.MAX_VALUE) + ", switched 600 = 600");
        says("In a YEAR ahead of it a DATE is the DAY that many and a 120th of the YEAR (cut), together, round by 364",
            "day 10 0 = 10, day 10 119 = 10, day 10 120 = 11, day 10 239 = 11, day 10 240 = 12, day 10 359 = 12",
            "day 10 360 = 13, day 10 479 = 13, day 10 480 = 14, day 10 599 = 14",
            "day 363 119 = 363, day 363 120 = 0, day 362 120 = 363, day 359 599 = 363, day 360 599 = 0, "
                + "day 363 599 = 3",
            "switched 240 = 600, day 363 239 = 0");
        says("from it on the DAY that many",
            "switched 240 = 600, day 10 239 = 11, day 10 240 = 10, day 10 599 = 10, day 363 240 = 363",
            "switched 0 = 600, day 10 0 = 10, day 363 120 = 363, day 363 599 = 363",
            "switched 599 = 600, day 10 598 = 14, day 10 599 = 10",
            "switched 600 = 600, day 10 599 = 14");
    }

    private static String faultOf(String text, String fault) {
        return "text " + text + ", fault = " + fault;
    }

    private void theBook() {
        says("THE BOOK is a TEXT (bytes, 48 at most)",
            "text " + LONGEST + " = 48, fault = NONE, book = 7, write 1 59 = FULL, count 5 = 48, fault = NONE, "
                + "book = 7",
            "write 1 255 = 1, fault = 0, book = LATE, wipe = 1, write 1 176 = 1, fault = 0, wipe = 1, "
                + "write 1 0 = 1, fault = 0");
        says("ENTRIES with a ; between them, one at least",
            "fault = 0, book = LATE, count 4 = 0",
            "text 000+00 = 6, fault = NONE, book = 1, count 4 = 1",
            "text 000+00;001+00 = 13, fault = NONE, book = 2, count 4 = 2",
            faultOf(";", "0") + ", book = LATE",
            faultOf(";000+00", "0"),
            faultOf("000+00;;001+00", "7"),
            faultOf("000+00;", "7") + ", book = LATE",
            faultOf("000+00:001+00", "6"),
            faultOf("000+00001+00", "6"));
        says("a YEAR (three figures, less than 600, greater than that ahead)",
            faultOf("000+00", "NONE"),
            faultOf("599+00", "NONE"),
            faultOf("600+00", "0"),
            faultOf("999+00", "0"),
            faultOf("59+00", "2"),
            faultOf("0599+00", "3"),
            faultOf("+00", "0"),
            faultOf("5/0", "1"),
            faultOf("5:0", "1"),
            faultOf("100+00;101+00", "NONE"),
            faultOf("100+00;100+00", "9"),
            faultOf("100+00;099+00", "7"),
            faultOf("199+00;200+00", "NONE"),
            faultOf("199+00;199+00", "7"),
            faultOf("598+00;599+00", "NONE"),
            faultOf("100+00;600+00", "7"),
            faultOf("000+00;000+00", "9"),
            faultOf("000+00;001+00;001+00", "16"));
        says("+ or - ",
            faultOf("100+10", "NONE"),
            faultOf("100-10", "NONE"),
            faultOf("100*10", "3"),
            faultOf("100.10", "3"),
            faultOf("100010", "3"),
            "text 100, write 1 44 = 4, fault = 3");
        says("two figures (0 .. 40)",
            faultOf("100+00", "NONE"),
            faultOf("100-00", "NONE"),
            faultOf("100+40", "NONE"),
            faultOf("100-40", "NONE"),
            faultOf("100+39", "NONE"),
            faultOf("100+41", "5"),
            faultOf("100-41", "5"),
            faultOf("100+50", "4"),
            faultOf("100+99", "4"),
            faultOf("100+4", "5"),
            faultOf("100+400", "6"),
            faultOf("100+1/", "5"),
            faultOf("100+1:", "5"),
            faultOf("100+/0", "4"),
            faultOf("100+:0", "4"));
    }

    private void theFault() {
        says("the place (from 0) of the first byte by which THE TEXT can be no BOOK, whatever came behind it",
            faultOf("x", "0"),
            faultOf("6", "0"),
            faultOf("5", "1"),
            faultOf("x000+00", "0"),
            faultOf("100*99", "3"),
            faultOf("599+00;", "6"),
            faultOf("598+00;", "7"),
            faultOf("259+00;25", "8"),
            faultOf("259+00;26", "9"),
            faultOf("258+00;25", "9"),
            faultOf("299+00;2", "7"),
            faultOf("299+00;3", "8"),
            faultOf("298+00;2", "8"),
            faultOf("598+00;598", "9"),
            faultOf("598+00;5", "8"),
            faultOf("589+00;58", "8"),
            faultOf("100+00x100+00", "6"),
            faultOf("000+00;001+00;002+00;003+00;004+00;005+00;006+0x", "47"));
        // 48 bytes hold seven ENTRIES and no more: what is sound so far stays sound up to the end
        says("(its length set aside)",
            faultOf("000+00;001+00;002+00;003+00;004+00;005+00;", "42"),
            faultOf("000+00;001+00;002+00;003+00;004+00;005+00;006+0", "47"),
            faultOf("000+00;001+00;002+00;003+00;004+00;005+00;599+00", "NONE"),
            faultOf("000+00;001+00;002+00;003+00;004+00;599+00;", "41"));
        says("its length, if it is only not at its end", "fault = 0");
        String whole = "598+40;599-40";
        for (int length = 1; length <= whole.length(); length++) {
            boolean isBook = length == 6 || length == 13;
            run(faultOf(whole.substring(0, length), isBook ? "NONE" : String.valueOf(length)));
        }
        says("NONE: none",
            faultOf("000-00", "NONE"),
            faultOf("000-00;599+40", "NONE"),
            faultOf(LONGEST, "NONE"),
            "text 000+00, fault = NONE, fault = NONE, write 1 59 = 7, fault = 7");
    }

    private void theNeedle() {
        says("THE NEEDLE in a YEAR: as the ENTRY tells",
            "read 000+07;100-08;599+09 = 3, needle 0 = 107, needle 100 = 92, needle 599 = 109",
            "read 000+40;001-40;002+00;599-00 = 4, needle 0 = 140, needle 1 = 60, needle 2 = 100, needle 599 = 100");
        says("between two ENTRIES: that of the earlier one, and what it goes to the later one by share of YEARS (cut "
            + "toward 0)",
            "read 100+00;103+01 = 2, needle 100 = 100, needle 101 = 100, needle 102 = 100, needle 103 = 101",
            "read 100+00;103-01 = 2, needle 100 = 100, needle 101 = 100, needle 102 = 100, needle 103 = 99",
            "read 100-01;103+01 = 2, needle 101 = 99, needle 102 = 100, needle 103 = 101",
            "read 100+01;103-01 = 2, needle 101 = 101, needle 102 = 100, needle 103 = 99",
            "read 000+40;599-40 = 2, needle 1 = 140, needle 7 = 140, needle 8 = 139, needle 598 = 61",
            "read 000+00;010+10;020+00 = 3, needle 9 = 109, needle 10 = 110, needle 11 = 109");
        says("ahead of the first as the first, behind the last as the last",
            "read 100+10;200-20 = 2, needle 0 = 110, needle 99 = 110, needle 201 = 80, needle 599 = 80",
            "read 599+10 = 1, needle 0 = 110, needle 598 = 110, needle 599 = 110",
            "read 000-10 = 1, needle 0 = 90, needle 1 = 90, needle 599 = 90",
            "read 000+00;500+40 = 2, read 100+10 = 1, needle 99 = 110, needle 101 = 110, needle 300 = 110, "
                + "needle 599 = 110",
            "read " + LONGEST + " = 7, needle 599 = 60, needle 598 = 61, needle 5 = 105");
        says("0 without a BOOK",
            "needle 0 = 100, needle 599 = 100, church 0 90 0 0 60 = 0, line 2 0 300 = 90, hits 2 0 = 61",
            "text 100+10 = 6, needle 100 = 100, text ;1 = 8, book = LATE, needle 100 = 100");
    }

    private void churches() {
        says("CHURCHES 0, 1, .. (10 at most)",
            count(10, "church 0 90 0 0 # = #") + ", church 0 90 0 0 0 = FULL, about 9 4 = 9, about 10 4 = UNKNOWN, "
                + "count 0 = 10",
            "church 0 90 0 0 0 = 0, " + each("about # 0 = UNKNOWN", NO_CHURCH_OF_ONE));
        says("a LAND, a LINE (DEGREE), a SLIP (0 .. 9)",
            "church 0 0 0 0 0 = 0, church 3 359 9 0 0 = 1, about 1 0 = 3, about 1 1 = 359, about 0 2 = 0, "
                + "about 1 2 = 9",
            each("church # 0 0 0 0 = UNKNOWN", NO_LAND) + ", " + each("church 0 # 0 0 0 = UNKNOWN", NO_DEGREE),
            each("church 0 0 # 0 0 = BAD", NOT_OF_TEN));
        says("built in one of some YEARS (from, to: 60 more at most)",
            "church 0 90 0 100 160 = 0, hits 0 0 = 61, hit 0 0 0 = 100, hit 0 0 60 = 160, hit 0 0 61 = NONE",
            "church 0 90 0 100 161 = BAD, church 0 90 0 100 99 = BAD, church 0 90 0 0 599 = BAD, "
                + "church 0 90 0 599 0 = BAD",
            "church 0 90 0 100 100 = 0, hits 0 0 = 1, church 0 90 0 539 599 = 1, hits 0 1 = 61, "
                + "church 0 90 0 538 599 = BAD");
        says("a SAINT's DATE, a STREET, an OLD wall (DEGREES; NONE at first, each)",
            "church 0 90 0 0 0 = 0, about 0 5 = NONE, about 0 6 = NONE, about 0 7 = NONE",
            "church 0 90 0 0 0 = 0, tell 0 0 363 = NONE, tell 0 1 359 = NONE, tell 0 2 359 = NONE, about 0 7 = 359",
            "church 0 90 0 0 0 = 0, " + each("tell 0 1 # = BAD", -1, 360) + ", " + each("tell 0 2 # = BAD", -1, 360));
    }

    private void rules() {
        says("RULES tell where a LINE should be in a YEAR: 0 90",
            "edge 3 9 9 = 0, church 3 200 0 0 0 = 0, line 0 0 0 = 90, line 0 0 599 = 90, "
                + each("line # 0 0 = UNKNOWN", NO_RULE));
        says("1 THE RISE of what DAY the SAINT's DATE is (none without)",
            "church 0 90 0 0 0 = 0, line 1 0 0 = NONE, tell 0 0 363, line 1 0 0 = 90, tell 0 0 NONE, "
                + "line 1 0 0 = NONE",
            "edge 1 5 9, church 1 90 0 0 0 = 0, tell 0 0 90, line 1 0 119 = 60, line 1 0 120 = 59, switched 120, "
                + "line 1 0 120 = 60");
        says("2 90 and THE NEEDLE",
            "read 100+40;101-40 = 2, church 0 90 0 0 0 = 0, line 2 0 100 = 130, line 2 0 101 = 50",
            "church 0 90 0 0 0 = 0, line 2 0 100 = 90");
        says("3 the STREET",
            "church 0 90 0 0 0 = 0, line 3 0 0 = NONE, tell 0 1 359, line 3 0 599 = 359, tell 0 1 0, "
                + "line 3 0 0 = 0, tell 0 1 NONE, line 3 0 0 = NONE");
        says("4 the OLD wall",
            "church 0 90 0 0 0 = 0, line 4 0 0 = NONE, tell 0 2 359, line 4 0 599 = 359, tell 0 2 0, "
                + "line 4 0 0 = 0, tell 0 2 NONE, line 4 0 0 = NONE");
        says("5 THE RISE of what DAY THE FEAST's DATE is (0 at first), the same for all",
            "church 0 90 0 0 0 = 0, line 5 0 0 = 90, line 5 0 599 = 89",
            "church 0 90 0 0 0 = 0, church 1 90 0 0 0 = 1, edge 1 5 9, feast 91 = 0, line 5 0 0 = 50, "
                + "line 5 1 0 = 59",
            "church 0 90 0 0 0 = 0, tell 0 0 91, line 5 0 0 = 90, line 1 0 0 = 50, feast 363 = 0, line 5 0 120 = 90");
        says("A RULE HITS a CHURCH in a YEAR, if its LINE is OFF by no more than the SLIP",
            "church 0 90 3 0 0 = 0, tell 0 1 93, hits 3 0 = 1, tell 0 1 94, hits 3 0 = 0, tell 0 1 87, "
                + "hits 3 0 = 1, tell 0 1 86, hits 3 0 = 0",
            "church 0 90 0 0 0 = 0, hits 0 0 = 1, tell 0 1 91, hits 3 0 = 0, tell 0 1 89, hits 3 0 = 0",
            "church 0 99 9 0 0 = 0, hits 0 0 = 1, church 0 100 9 0 0 = 1, hits 0 1 = 0",
            "church 0 2 3 0 0 = 0, tell 0 1 359, hits 3 0 = 1, tell 0 1 358, hits 3 0 = 0",
            "church 0 357 3 0 0 = 0, tell 0 1 0, hits 3 0 = 1, tell 0 1 1, hits 3 0 = 0",
            // a LINE that is not there is OFF of none, though -9 would lie near 351 and 0
            "church 0 351 9 0 0 = 0, hits 1 0 = 0, hits 3 0 = 0, hits 4 0 = 0, explain 0 = 0",
            "church 0 0 9 0 0 = 0, hits 1 0 = 0, hits 3 0 = 0, hits 4 0 = 0, explain 0 = 0");
        says("It EXPLAINS it, if it HITS it in one of its YEARS.",
            ONE_YEAR + "church 0 100 0 101 161 = 0, explain 0 = 4",
            ONE_YEAR + "church 0 100 0 41 101 = 0, explain 0 = 4",
            ONE_YEAR + "church 0 100 0 101 101 = 0, explain 0 = 4",
            ONE_YEAR + "church 0 100 0 90 110 = 0, explain 0 = 4",
            ONE_YEAR + "church 0 100 0 102 162 = 0, explain 0 = 0",
            ONE_YEAR + "church 0 100 0 40 100 = 0, explain 0 = 0");
    }

    private void chancesAndOdds() {
        says("YEARS in which it HITS by all YEARS, and by (twice the SLIP, and 1 more)",
            "church 0 90 0 7 7 = 0, chance 0 0 true = 1, chance 0 0 false = 1",
            "church 0 90 9 0 60 = 0, chance 0 0 true = 1, chance 0 0 false = 19",
            ONE_YEAR + "church 0 100 0 41 101 = 0, chance 2 0 true = 1, chance 2 0 false = 61, chance 0 0 true = 0, "
                + "chance 0 0 false = 1",
            ONE_YEAR + "church 0 102 2 96 105 = 0, chance 2 0 true = 1, chance 2 0 false = 50",
            "read 100+00;161+61 = LATE, read 100+00;140+40 = 2, church 0 100 4 106 155 = 0, hits 2 0 = 9, "
                + "chance 2 0 true = 1, chance 2 0 false = 50");
        says("RULES have WEIGHTS (0 .. 9; 1 at first)",
            count(6, "weight # 9 = 1") + ", " + count(6, "weight # 0 = 9"),
            each("weight 0 # = BAD", NOT_OF_TEN) + ", weight 0 1 = 1, " + each("weight # 1 = UNKNOWN", NO_RULE));
        says("its WEIGHT times the chance by those of all RULES together",
            "church 0 90 0 0 60 = 0, odds 0 0 true = 1, odds 0 0 false = 3, odds 1 0 true = 0, odds 1 0 false = 1",
            "church 0 90 0 0 60 = 0, weight 0 9, odds 0 0 true = 9, odds 0 0 false = 11, odds 2 0 true = 1, "
                + "odds 2 0 false = 11",
            "church 0 90 0 0 60 = 0, weight 0 0, odds 0 0 true = 0, odds 0 0 false = 1, odds 2 0 true = 1, "
                + "odds 2 0 false = 2",
            "church 0 90 0 0 60 = 0, weight 0 0, weight 2 0, odds 5 0 true = 1, odds 5 0 false = 1",
            ONE_YEAR + "church 0 100 4 101 102 = 0, tell 0 1 104, odds 2 0 true = 1, odds 2 0 false = 3, "
                + "odds 3 0 true = 2, odds 3 0 false = 3");
        says("THE BEST RULE: with the greatest, of like ones the least.",
            "church 0 90 0 0 60 = 0, best 0 = 0, weight 0 0, best 0 = 2, weight 5 2, best 0 = 5, weight 2 2, "
                + "best 0 = 2",
            "church 0 90 0 0 60 = 0, tell 0 0 0, tell 0 1 90, tell 0 2 90, best 0 = 0, weight 4 9, best 0 = 4, "
                + "weight 3 9, best 0 = 3",
            "church 0 90 0 0 60 = 0, tell 0 0 0, weight 0 0, best 0 = 1",
            ONE_YEAR + "church 0 100 0 101 102 = 0, tell 0 2 100, best 0 = 4, weight 2 2, best 0 = 2, weight 2 1, "
                + "best 0 = 4");
    }

    private void fewestAndLook() {
        says("the set of RULES (bits), as few as can be",
            "church 0 200 0 0 0, church 0 210 0 0 0, tell 0 1 200, tell 0 2 200, tell 1 2 210, fewest = 16",
            "church 0 200 0 0 0, church 0 210 0 0 0, tell 0 1 200, tell 1 2 210, fewest = 24",
            "fewest = 0",
            "read 000+30 = 1, feast 91, church 0 90 0 0 0, church 0 130 0 0 0, tell 1 0 273, church 0 120 0 0 0, "
                + "church 0 200 0 0 0, tell 3 1 200, church 0 210 0 0 0, tell 4 2 210, church 0 50 0 0 0, "
                + "fewest = 63",
            // four of six CHURCHES share one RULE, but the two others alone do for all
            "church 0 200 0 0 0, tell 0 1 200, tell 0 2 200, church 0 201 0 0 0, tell 1 1 201, tell 1 2 201, "
                + "church 0 202 0 0 0, tell 2 1 202, church 0 203 0 0 0, tell 3 2 203, fewest = 24");
        says("so that each CHURCH that some RULE EXPLAINS is so by one of the set",
            "church 0 200 0 0 60 = 0, explain 0 = 0, fewest = 0",
            "church 0 200 0 0 60 = 0, church 0 201 0 0 60 = 1, tell 1 1 201, fewest = 8, tell 0 1 200, fewest = 8",
            "church 0 200 0 0 60 = 0, church 0 90 0 0 60 = 1, fewest = 1, weight 0 0 = 1, fewest = 1",
            ONE_YEAR + "church 0 100 0 41 101 = 0, fewest = 4",
            "church 0 90 0 0 0, keep 0 = 1, church 0 200 0 0 0, tell 1 1 200, fewest = 9, again 0 = 1, fewest = 1");
        says("of as many the least number",
            "church 0 90 0 0 0 = 0, explain 0 = 37, fewest = 1",
            "church 0 200 0 0 0 = 0, tell 0 1 200, tell 0 2 200, fewest = 8",
            "read 000+10 = 1, church 0 90 0 0 0 = 0, tell 0 2 90, church 0 200 0 0 0 = 1, tell 1 1 200, "
                + "tell 1 2 200, fewest = 16",
            "church 0 90 0 0 0 = 0, church 0 200 0 0 0 = 1, tell 1 1 200, tell 1 2 200, fewest = 9");
        says("TO LOOK: the CHURCH that most RULES EXPLAIN; of like ones the first.",
            "church 0 90 0 0 0, church 0 90 0 0 0, look = 0, tell 1 1 90, look = 1, tell 0 2 90, look = 0",
            "church 0 200 0 0 0, church 0 90 0 0 0, church 0 90 0 0 0, look = 1",
            "church 0 200 0 0 0, church 0 201 0 0 0, look = 0",
            count(9, "church 0 200 0 0 0 = #") + ", church 0 90 0 0 0 = 9, look = 9, weight 0 0, weight 2 0, "
                + "weight 5 0, look = 9");
    }

    private void days() {
        says("DAYS OF A LINE: DAYS whose RISE in the LAND of a CHURCH is OFF its LINE by no more than the SLIP.",
            "church 0 50 0 0 0, days 0 = 1, on 0 90 = 0, on 0 91 = 1, on 0 92 = 0, church 0 50 1 0 0, days 1 = 5",
            "church 0 41 9 0 0, days 0 = 1, church 0 40 9 0 0, days 1 = 0, church 0 130 0 0 0, days 2 = 1, "
                + "on 2 273 = 1",
            "church 0 139 9 0 0, days 0 = 1, on 0 273 = 1, church 0 140 9 0 0, days 1 = 0, on 1 273 = 0",
            "church 0 90 0 0 0, days 0 = 10, on 0 362 = 1, on 0 361 = 0, on 0 0 = 1, on 0 2 = 1, on 0 3 = 0",
            "edge 1 5 9, church 0 50 0 0 0, church 1 59 0 0 0, days 0 = 1, on 1 91 = 1, edge 1 5 0, on 1 91 = 0",
            "church 0 0 9 0 0, days 0 = 0, church 0 351 9 0 0, days 1 = 0");
        says("OWN HITS: of CHURCHES that have a SAINT (n of them, 10 at most) how many RULE 1 EXPLAINS.",
            "own = 0, church 0 90 0 0 0, own = 0, tell 0 0 0, own = 1, tell 0 0 91, own = 0, tell 0 0 NONE, own = 0",
            count(10, "church 0 90 0 0 #") + ", " + count(10, "tell # 0 #") + ", own = 3",
            count(10, "church 0 90 0 0 #") + ", " + count(10, "tell # 0 182 = NONE") + ", own = 10, count 1 = 10",
            "church 0 89 0 100 120, tell 0 0 2, own = 1, church 0 89 0 100 119, tell 1 0 2, own = 1, switched 120, "
                + "own = 0",
            "church 0 90 0 119 130, tell 0 0 2, own = 1, church 0 90 0 120 130, tell 1 0 2, own = 1");
        says("DEALT ANEW: of all ways to deal these SAINTS' DATES to these CHURCHES",
            "church 0 90 0 0 0, church 0 50 0 0 0, church 0 60 0 0 0, tell 1 0 91, tell 2 0 69, deals 2 = 1, "
                + "deals 1 = 0, deals 0 = 1, dealt true = 1, dealt false = 2",
            "church 0 50 0 0 0, church 0 60 0 0 0, church 0 90 0 0 0, tell 0 0 91, tell 1 0 69, deals 2 = 1, "
                + "deals 1 = 0, deals 0 = 1, tell 0 0 NONE, deals 1 = 1, deals 0 = 0",
            // the one date is of the day 2 in the year 119, and of the day 3 in the year 120
            "church 0 90 0 119 120, church 0 89 0 119 120, tell 0 0 2, tell 1 0 2, own = 2, deals 2 = 2",
            "church 0 90 0 120 120, church 0 89 0 119 119, tell 0 0 2, tell 1 0 2, own = 0, deals 0 = 2");
        says("(places, not DATES, tell ways apart)",
            "church 0 90 0 0 0, church 0 90 0 0 0, tell 0 0 0, tell 1 0 0, deals 2 = 2, deals 1 = 0, deals 0 = 0",
            "church 0 90 0 0 0, church 0 50 0 0 0, church 0 50 0 0 0, tell 0 0 91, tell 1 0 91, tell 2 0 91, "
                + "deals 2 = 6",
            "church 0 90 0 0 0, church 0 50 0 0 0, tell 0 0 91, tell 1 0 91, dealt true = 1, dealt false = 1");
        says("the share with as many OWN HITS or more",
            "church 0 90 0 0 0, church 0 50 0 0 0, tell 0 0 0, tell 1 0 91, own = 2, dealt true = 1, dealt false = 2",
            "church 0 90 0 0 0, church 0 50 0 0 0, tell 0 0 91, tell 1 0 0, own = 0, dealt true = 1, dealt false = 1",
            "church 0 90 0 0 0, church 0 50 0 0 0, tell 0 0 0, tell 1 0 0, own = 1, dealt true = 1, dealt false = 1",
            "church 0 90 0 0 0, church 0 50 0 0 0, church 0 60 0 0 0, tell 0 0 0, tell 1 0 91, tell 2 0 69, "
                + "own = 3, dealt false = 6",
            "church 0 90 0 0 0, church 0 50 0 0 0, church 0 60 0 0 0, tell 0 0 0, tell 1 0 69, tell 2 0 91, "
                + "own = 1, dealt true = 2, dealt false = 3");
    }

    private void goesAndLuck() {
        says("(in the middle YEAR of each: from and to together, by two, cut)",
            "read 101+00;102+40 = 2, church 0 90 0 0 0, church 0 99 0 101 102, goes = 0, church 0 99 0 101 103, "
                + "goes = 1",
            "read 101+00;102+40 = 2, church 0 90 0 0 0, church 0 99 0 100 103, goes = 0",
            "read 101+00;102+40 = 2, church 0 90 0 0 0, church 0 99 0 102 102, goes = 1",
            "read 568+00;569+40 = 2, church 0 90 0 0 0, church 0 99 0 539 599, goes = 1",
            "read 569+00;570+40 = 2, church 0 90 0 0 0, church 0 99 0 539 599, goes = 0");
        says("LINES (less 90, from -179 to 180)",
            "read 000+00;001+40 = 2, church 0 269 0 0 0, church 0 270 0 1 1, goes = 1",
            "read 000+00;001+40 = 2, church 0 270 0 0 0, church 0 271 0 1 1, goes = -1",
            "read 000+00;001+40 = 2, church 0 271 0 0 0, church 0 272 0 1 1, goes = 1",
            "read 000+00;001+40 = 2, church 0 359 0 0 0, church 0 0 0 1 1, goes = 1",
            "read 000+00;001+40 = 2, church 0 271 0 0 0, church 0 90 0 1 1, goes = 1",
            "read 000+00;001+40 = 2, church 0 0 0 0 0, church 0 270 0 1 1, goes = 1");
        says("go the same way, less pairs at which they go the other way (neither, if one does not go)",
            "read 000+00;100+20 = 2, church 0 80 0 0 0, church 0 81 0 50 50, church 0 82 0 100 100, goes = 3",
            "read 000+00;100+20 = 2, church 0 82 0 0 0, church 0 81 0 50 50, church 0 80 0 100 100, goes = -3",
            "read 000+00;100+20 = 2, church 0 80 0 0 0, church 0 82 0 50 50, church 0 81 0 100 100, goes = 1",
            "read 000+00;100+20 = 2, church 0 80 0 0 0, church 0 80 0 50 50, goes = 0",
            "read 000+00;100+20 = 2, church 0 80 0 50 50, church 0 81 0 50 50, goes = 0",
            "church 0 80 0 0 0, church 0 81 0 50 50, goes = 0, church 0 81 0 50 50, goes = 0",
            "goes = 0, church 0 80 0 0 0, goes = 0");
        says("BY LUCK: of all ways to deal LINES to CHURCHES",
            "read 000+00;100+20 = 2, church 0 80 0 0 0, church 0 80 0 50 50, church 0 81 0 100 100, goes = 2, "
                + "luck true = 1, luck false = 3",
            "read 000+00;100+20 = 2, church 0 80 0 0 0, church 0 81 0 0 0, church 0 82 0 100 100, goes = 2, "
                + "luck true = 1, luck false = 3");
        says("the share by which that is as great or greater",
            "read 000+00;100+20 = 2, church 0 80 0 0 0, church 0 81 0 100 100, luck true = 1, luck false = 2",
            "read 000+00;100+20 = 2, church 0 81 0 0 0, church 0 80 0 100 100, luck true = 1, luck false = 1",
            "read 000+00;100+20 = 2, church 0 80 0 0 0, church 0 80 0 100 100, luck true = 1, luck false = 1",
            // of six ways one scores 3, two 1, two -1, one -3
            "read 000+00;100+20 = 2, church 0 80 0 0 0, church 0 82 0 50 50, church 0 81 0 100 100, luck true = 1, "
                + "luck false = 2",
            "read 000+00;100+20 = 2, church 0 82 0 0 0, church 0 80 0 50 50, church 0 81 0 100 100, luck true = 5, "
                + "luck false = 6");
        says("(asked only of 1 .. 6 CHURCHES)",
            "luck true = LATE, luck false = LATE, church 0 90 0 0 0, luck true = 1, luck false = 1",
            "read 000+00;599+40 = 2, church 0 90 0 0 0, church 0 91 0 100 100, church 0 92 0 200 200, "
                + "church 0 93 0 300 300, church 0 94 0 400 400, church 0 95 0 500 500, goes = 15, luck true = 1, "
                + "luck false = 720",
            count(7, "church 0 90 0 0 0 = #") + ", luck true = LATE, luck false = LATE, keep 0 = 7",
            count(6, "church 0 90 0 0 0 = #") + ", keep 0 = 6, luck true = 1, church 0 90 0 0 0 = 6, "
                + "luck true = LATE, again 0 = 6, luck true = 1");
    }

    private void datedAndMaster() {
        says("DATED by THE NEEDLE is a CHURCH: YEARS 0 .. 599 in which RULE 2 HITS: how many, the first, the last",
            "church 0 90 0 300 300, dated 0 0 = 600, dated 0 1 = 0, dated 0 2 = 599, dated 0 3 = 1",
            "read 000+00;001+01;598+01;599+00 = 4, church 0 90 0 300 300, dated 0 0 = 2, dated 0 1 = 0, "
                + "dated 0 2 = 599",
            "read 000+00;001+01;598+01;599+00 = 4, church 0 91 0 300 300, dated 0 0 = 598, dated 0 1 = 1, "
                + "dated 0 2 = 598",
            "church 0 91 0 300 300, dated 0 0 = 0, dated 0 1 = NONE, dated 0 2 = NONE, dated 0 3 = 0",
            "church 0 99 9 300 300, dated 0 0 = 600, church 0 100 9 0 0, dated 1 0 = 0");
        says("how many SPANS (YEARS one behind the other)",
            "read 100+00;101+01;102+00 = 3, church 0 90 0 0 0, dated 0 0 = 599, dated 0 3 = 2, church 0 91 0 0 0, "
                + "dated 1 0 = 1, dated 1 3 = 1",
            "read 000+00;001+01;598+01;599+00 = 4, church 0 90 0 0 0, dated 0 3 = 2, church 0 91 0 0 0, "
                + "dated 1 3 = 1",
            "read 100+00;101+01;102+00;103+01;104+00;105+01;106+00 = 7, church 0 91 0 0 0, dated 0 3 = 3, "
                + "church 0 90 0 0 0, dated 1 3 = 4");
        says("the most CHURCHES of which no two LINES are OFF by more than x, no two middle YEARS by more than y",
            "church 0 358 0 100 100, church 0 2 0 100 100, master 4 0 = 3, master 3 0 = 1, master 180 0 = 3",
            "church 0 90 0 100 101, church 0 90 0 100 100, master 0 0 = 3, church 0 90 0 101 101, master 0 0 = 3, "
                + "master 0 1 = 7",
            "church 0 0 0 0 0, church 0 180 0 599 599, master 180 599 = 3, master 179 599 = 1, master 180 598 = 1",
            "church 0 0 0 0 0, church 0 5 0 0 0, church 0 10 0 0 0, master 5 0 = 3, master 9 0 = 3, master 10 0 = 7",
            "church 0 0 0 0 0, church 0 100 0 0 0, church 0 101 0 0 0, master 1 0 = 6",
            count(10, "church 0 # 0 # # = #") + ", master 9 9 = 1023, master 9 8 = 511, master 0 0 = 1");
        says("of as many that set that is least as bits",
            "church 0 0 0 0 0, church 0 100 0 0 0, church 0 100 0 0 0, church 0 0 0 0 0, master 0 0 = 6",
            "church 0 0 0 0 0, church 0 100 0 0 0, church 0 0 0 0 0, church 0 100 0 0 0, master 0 0 = 5",
            "church 0 0 0 0 0, church 0 100 0 0 0, master 99 599 = 1, master 100 0 = 3");
    }

    private void choirsAndSlots() {
        says("A CHOIR of a CHURCH has a LINE of its own (NONE at first), of a later YEAR from .. to.",
            "church 0 90 0 100 110, about 0 8 = NONE, bends 0 = LATE, choir 0 91 111 171 = NONE, about 0 1 = 90, "
                + "about 0 8 = 91",
            "church 0 90 0 100 110, choir 0 91 110 110 = LATE, choir 0 91 0 0 = LATE, about 0 8 = NONE, "
                + "choir 0 91 111 111 = NONE",
            "church 0 90 0 599 599, choir 0 91 599 599 = LATE, church 0 90 0 598 598, choir 1 91 599 599 = NONE, "
                + "about 1 10 = 599");
        says("It BENDS by how much it is OFF the CHURCH's.",
            "church 0 90 0 0 0, choir 0 90 1 1, bends 0 = 0, choir 0 270 1 1, bends 0 = 180, choir 0 271 1 1, "
                + "bends 0 = 179",
            "church 0 359 0 0 0, choir 0 0 1 1, bends 0 = 1, church 0 0 0 0 0, choir 1 359 1 1, bends 1 = 1");
        says("the RULE that EXPLAINS the CHOIR (its LINE, its YEARS, the SLIP, all else the CHURCH's) and not the "
            + "CHURCH",
            "church 0 100 0 0 0, choir 0 90 1 1, why 0 = 0, church 0 90 0 0 0, choir 1 90 1 1, why 1 = NONE",
            ONE_YEAR + "church 0 100 0 41 100, choir 0 100 101 161, why 0 = 2, choir 0 100 102 162, why 0 = NONE, "
                + "choir 0 100 101 101, why 0 = 2",
            ONE_YEAR + "church 0 100 0 0 0, choir 0 100 41 101, why 0 = 2, choir 0 100 40 100, why 0 = NONE",
            "church 0 200 3 0 0, tell 0 1 213, choir 0 210 1 1, why 0 = 3, choir 0 209 1 1, why 0 = NONE, "
                + "choir 0 216 1 1, why 0 = 3",
            "church 0 200 9 0 0, tell 0 1 209, choir 0 210 1 1, why 0 = NONE, tell 0 1 210, why 0 = 3",
            "read 100+00;101+10;102+00;199+00;200+10;201+00 = 6, church 0 100 0 101 161, choir 0 100 200 200, "
                + "why 0 = NONE, church 0 100 0 41 101, choir 1 100 200 200, why 1 = NONE, church 0 100 0 102 162, "
                + "choir 2 100 200 200, why 2 = 2",
            "edge 1 5 9, church 1 200 0 0 0, tell 0 0 91, choir 0 59 1 1, why 0 = 1, feast 91, tell 0 0 NONE, "
                + "why 0 = 5, tell 0 2 59, why 0 = 4");
        says("the least; NONE.",
            "church 0 200 0 0 0, tell 0 0 0, tell 0 1 90, tell 0 2 90, choir 0 90 1 1, why 0 = 0",
            "church 0 200 0 0 0, tell 0 1 210, tell 0 2 210, choir 0 210 1 1, why 0 = 3, tell 0 1 NONE, why 0 = 4, "
                + "tell 0 2 NONE, why 0 = NONE",
            "church 0 351 9 0 0, choir 0 0 1 1, why 0 = NONE");
        says("how many YEARS of the CHURCH HIT by RULE 1 with the one DATE (in YEARS ahead of it) or the other one "
            + "(from it on)",
            "church 0 90 0 100 110, tell 0 0 91, when 0 0 0 = 11, when 0 0 100 = 11, when 0 0 101 = 10, "
                + "when 0 0 110 = 1, when 0 0 111 = 0, when 0 0 599 = 0",
            "church 0 90 0 100 110, tell 0 0 0, when 0 91 0 = 0, when 0 91 100 = 0, when 0 91 101 = 1, "
                + "when 0 91 110 = 10, when 0 91 111 = 11",
            "church 0 90 0 599 599, tell 0 0 178, when 0 91 599 = 0, when 0 178 599 = 1, tell 0 0 91, "
                + "when 0 178 599 = 1",
            "church 0 89 0 119 120, tell 0 0 4, when 0 2 120 = 2, when 0 2 119 = 1, when 0 2 121 = 1, switched 0, "
                + "when 0 3 120 = 2");
        says("SLOTS 0 .. 1 keep all CHURCHES (all that is told of them)",
            "church 3 359 9 539 540, tell 0 0 363, tell 0 1 359, tell 0 2 358, choir 0 357 541 599, keep 0 = 1, "
                + "church 1 1 1 1 1, keep 1 = 2, tell 0 0 NONE, tell 0 1 NONE, tell 0 2 NONE, choir 0 1 542 542, "
                + "again 0 = 1, about 0 0 = 3, about 0 1 = 359, about 0 2 = 9, about 0 3 = 539, about 0 4 = 540, "
                + "about 0 5 = 363, about 0 6 = 359, about 0 7 = 358, about 0 8 = 357, about 0 9 = 541, "
                + "about 0 10 = 599, about 1 0 = UNKNOWN, again 1 = 2, about 1 1 = 1",
            each("keep # = UNKNOWN", NO_SLOT) + ", " + each("again # = UNKNOWN", NO_SLOT),
            "church 0 90 0 0 0, keep 1 = 1, again 0 = LATE, weight 0 7, feast 9, switched 99, again 1 = 1, "
                + "weight 0 1 = 7, feast 0 = 9, switched 0 = 99");
    }

    private void refusals() {
        says("UNKNOWN -1 (there is no such DEGREE, YEAR, DAY, DATE, LAND, CHURCH, RULE, SLOT)",
            "off 360 0 = -1, needle 600 = -1, sun 364 = -1, feast 364 = -1, rise 4 0 = -1, explain 0 = -1, "
                + "weight 6 0 = -1, keep 2 = -1",
            "off -1 0 = -1, needle -1 = -1, sun -1 = -1, feast -1 = -1, rise -1 0 = -1, explain -1 = -1, "
                + "weight -1 0 = -1, keep -1 = -1");
        says("BAD -2, LATE -3, FULL -4.",
            "switched 601 = -2, book = -3, " + count(10, "church 0 0 0 0 0 = #") + ", church 0 0 0 0 0 = -4",
            "write 0 0 = -2, again 0 = -3, text " + LONGEST + ", write 1 0 = -4");
        says("Of several what is told first.",
            "edge 4 0 10 = UNKNOWN, edge 0 36 10 = UNKNOWN, edge -1 0 -1 = UNKNOWN, weight 6 10 = UNKNOWN",
            "text " + LONGEST + ", write 0 0 = BAD, write 9 0 = BAD, write 1 0 = FULL",
            "church 4 90 10 0 0 = UNKNOWN, church 0 360 10 0 0 = UNKNOWN, church 0 90 10 600 0 = UNKNOWN, "
                + "church 0 90 0 599 600 = UNKNOWN, church 0 90 0 539 600 = UNKNOWN, church 0 90 0 0 -1 = UNKNOWN, "
                + "church 0 90 0 0 600 = UNKNOWN",
            count(10, "church 0 0 0 0 0 = #") + ", church 4 0 0 0 0 = UNKNOWN, church 0 0 0 0 600 = UNKNOWN, "
                + "church 0 0 10 0 0 = BAD, church 0 0 0 1 0 = BAD, church 0 0 0 0 61 = BAD, "
                + "church 0 0 0 0 60 = FULL",
            "tell 0 3 0 = UNKNOWN, tell 0 0 364 = UNKNOWN, about 0 11 = UNKNOWN, dated 0 4 = UNKNOWN",
            "church 0 90 0 0 10 = 0, choir 1 90 0 0 = UNKNOWN, choir 1 90 9 8 = UNKNOWN, choir 0 360 9 8 = UNKNOWN, "
                + "choir 0 90 600 8 = UNKNOWN, choir 0 90 9 -1 = UNKNOWN, choir 0 90 11 600 = UNKNOWN, "
                + "choir 0 90 10 9 = BAD, choir 0 90 10 71 = BAD, choir 0 90 10 10 = LATE, about 0 8 = NONE",
            "church 0 90 0 0 0 = 0, " + count(6, "weight # 0 = 1") + ", odds 6 0 true = UNKNOWN, "
                + "odds 0 1 false = UNKNOWN, best 1 = UNKNOWN, odds 0 0 true = LATE, best 0 = LATE",
            "church 0 90 0 0 0 = 0, when 1 0 0 = UNKNOWN, when 0 364 0 = UNKNOWN, when 0 0 600 = UNKNOWN, "
                + "since 1 0 = UNKNOWN, since 0 364 = UNKNOWN, when 0 0 0 = LATE, since 0 0 = LATE",
            "again 2 = UNKNOWN, again 1 = LATE, bends 0 = UNKNOWN, why 0 = UNKNOWN");
        refusedChangesNothing();
        says("NONE is -9.",
            "look = -9, church 0 90 0 0 0 = 0, about 0 5 = -9, line 1 0 0 = -9, hit 1 0 0 = -9, tell 0 1 -9 = -9, "
                + "dated 0 1 = 0",
            "read 000+00 = 1, fault = -9, church 0 0 0 0 0, dated 0 1 = -9, dated 0 2 = -9, choir 0 0 1 1 = -9, "
                + "why 0 = -9");
        says("FRACTIONS are told above (upper = true), below (1 and more), in least terms (0 by 1)",
            "church 0 200 9 0 60, chance 0 0 true = 0, chance 0 0 false = 1, tell 0 1 200, odds 0 0 true = 0, "
                + "odds 0 0 false = 1",
            "church 0 90 0 0 60, chance 0 0 true = 1, chance 0 0 false = 1, weight 0 9, weight 2 3, weight 5 6, "
                + "odds 0 0 true = 1, odds 0 0 false = 2",
            "dealt true = 1, dealt false = 1, church 0 90 0 0 0, luck true = 1, luck false = 1",
            "read 100+00;130+01 = 2, church 0 91 1 100 159, tell 0 1 93, hits 0 0 = 60, chance 0 0 true = 1, "
                + "chance 0 0 false = 3");
        says("refusals of them are told likewise",
            "chance 6 0 true = UNKNOWN, chance 6 0 false = UNKNOWN, odds 0 0 true = UNKNOWN, "
                + "odds 0 0 false = UNKNOWN",
            "luck true = LATE, luck false = LATE",
            "church 0 0 0 0 0 = 0, chance 0 1 true = UNKNOWN, chance 0 1 false = UNKNOWN, odds 0 0 true = LATE, "
                + "odds 0 0 false = LATE");
    }

    private void refusedChangesNothing() {
        says("What is refused changes nothing.",
            "edge 0 5 3 = 0, edge 0 5 10 = BAD, edge 0 5 -1 = BAD, edge 4 5 9 = UNKNOWN, edge 0 36 9 = UNKNOWN, "
                + "rise 0 91 = 53, edge 0 5 0 = 3",
            "switched 240 = 600, switched 601 = BAD, switched -1 = BAD, day 10 239 = 11, switched 0 = 240",
            "feast 91 = 0, feast 364 = UNKNOWN, feast -1 = UNKNOWN, feast 0 = 91",
            "text 100+10, write 0 0 = BAD, write 9 0 = BAD, write -1 0 = BAD, count 5 = 6, fault = NONE",
            "text 000+00;001+00;002+00;003+00;004+00;005+00, write 8 0 = FULL, count 5 = 41, fault = NONE, book = 6",
            "read 100+10 = 1, write 1 59 = 7, book = LATE, needle 100 = 110, count 4 = 1, count 5 = 7, wipe = 7, "
                + "book = LATE, needle 100 = 110",
            "church 4 0 0 0 0 = UNKNOWN, church 0 360 0 0 0 = UNKNOWN, church 0 0 0 600 600 = UNKNOWN, "
                + "church 0 0 10 0 0 = BAD, church 0 0 0 1 0 = BAD, church 0 0 0 0 61 = BAD, count 0 = 0, "
                + "about 0 0 = UNKNOWN, look = NONE, church 0 1 0 0 0 = 0",
            count(10, "church 0 # 0 0 0 = #") + ", church 0 99 0 0 0 = FULL, count 0 = 10, about 9 1 = 9, "
                + "about 0 1 = 0",
            "church 0 0 0 0 0, tell 0 0 5, tell 0 1 6, tell 0 2 7, tell 0 0 364 = BAD, tell 0 1 360 = BAD, "
                + "tell 0 2 360 = BAD, tell 0 3 1 = BAD, tell 0 -1 1 = BAD, tell 1 0 1 = UNKNOWN, about 0 5 = 5, "
                + "about 0 6 = 6, about 0 7 = 7, about 0 4 = 0, about 0 8 = NONE",
            "weight 0 7 = 1, weight 0 10 = BAD, weight 0 -1 = BAD, weight 6 9 = UNKNOWN, weight 0 1 = 7",
            "church 0 0 0 0 10, choir 0 5 11 12, choir 1 6 13 14 = UNKNOWN, choir 0 360 13 14 = UNKNOWN, "
                + "choir 0 6 600 14 = UNKNOWN, choir 0 6 13 12 = BAD, choir 0 6 13 74 = BAD, "
                + "choir 0 6 10 14 = LATE, about 0 8 = 5, about 0 9 = 11, about 0 10 = 12",
            "church 0 0 0 0 0, keep 0 = 1, church 0 0 0 0 0, keep 2 = UNKNOWN, keep -1 = UNKNOWN, "
                + "again 2 = UNKNOWN, again 1 = LATE, count 0 = 2, again 1 = LATE, again 0 = 1, count 0 = 1",
            "church 0 90 0 0 0, tell 0 0 5, when 0 364 0 = UNKNOWN, since 0 364 = UNKNOWN, when 0 7 0 = 0, "
                + "since 0 7 = 0, about 0 5 = 5");
    }

    private void all() {
        whatItIs();
        degreesYearsDays();
        theSun();
        theEdge();
        theCalendars();
        theBook();
        theFault();
        theNeedle();
        churches();
        rules();
        chancesAndOdds();
        fewestAndLook();
        days();
        goesAndLuck();
        datedAndMaster();
        choirsAndSlots();
        refusals();
        end();
    }

    public static void main(String[] args) {
        new TermsEdgesTest().all();
    }
}
