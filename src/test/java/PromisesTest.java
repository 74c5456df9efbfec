/** Each promise of the document by itself: ordinary calls, the edges that it names, and what it refuses. */
public final class PromisesTest {
    private static final int UNKNOWN = -1, BAD = -2, LATE = -3, FULL = -4, NONE = -9;

    private static final Due due = new Due();

    private static void is(String call, long got, long want) {
        due.is(call, got, want);
    }

    private static void write(EastNearly e, String text) {
        for (int i = 0; i < text.length(); i++) e.write(1, text.charAt(i));
    }

    private static int readBook(EastNearly e, String text) {
        e.wipe();
        write(e, text);
        return e.book();
    }

    private static EastNearly withBook(String text) {
        EastNearly e = new EastNearly();
        readBook(e, text);
        return e;
    }

    /** One church that looks at LINE within SLIP, on flat land. */
    private static EastNearly withChurch(int line, int slip, int from, int to) {
        EastNearly e = new EastNearly();
        e.church(0, line, slip, from, to);
        return e;
    }

    private static int faultOf(String text) {
        EastNearly e = new EastNearly();
        write(e, text);
        return e.fault();
    }

    private static void newObject() {
        EastNearly e = new EastNearly();
        for (int land = 0; land < 4; land++) is("1 rise", e.rise(land, 91), 50);
        for (int what = 0; what < 6; what++) is("1 count " + what, e.count(what), 0);
        is("1 needle", e.needle(300), 100);
        is("1 about", e.about(0, 0), UNKNOWN);
        is("1 look", e.look(), NONE);
        is("1 switched", e.switched(0), 600);
        is("1 feast", e.feast(1), 0);
        for (int rule = 0; rule < 6; rule++) is("1 weight", e.weight(rule, 0), 1);
        is("1 again 0", e.again(0), LATE);
        is("1 again 1", e.again(1), LATE);
    }

    private static void degreesOff() {
        EastNearly e = new EastNearly();
        is("2 off", e.off(0, 0), 0);
        is("2 off", e.off(10, 350), 20);
        is("2 off", e.off(350, 10), 20);
        is("2 off", e.off(0, 359), 1);
        is("2 off", e.off(90, 270), 180);
        is("2 off", e.off(90, 271), 179);
        is("2 off", e.off(-1, 0), UNKNOWN);
        is("2 off", e.off(0, -1), UNKNOWN);
        is("2 off", e.off(360, 0), UNKNOWN);
        is("2 off", e.off(0, 360), UNKNOWN);
    }

    private static void sun() {
        EastNearly e = new EastNearly();
        int[][] days = {{0, 90}, {1, 90}, {2, 90}, {3, 89}, {45, 71}, {90, 51}, {91, 50}, {92, 51}, {179, 89},
            {180, 90}, {182, 90}, {184, 90}, {185, 91}, {273, 130}, {272, 129}, {274, 129}, {361, 91}, {362, 90},
            {363, 90}};
        for (int[] day : days) is("3 sun " + day[0], e.sun(day[0]), day[1]);
        is("3 sun", e.sun(-1), UNKNOWN);
        is("3 sun", e.sun(364), UNKNOWN);
    }

    private static void edgeAndRise() {
        EastNearly e = new EastNearly();
        is("4 edge", e.edge(0, 5, 4), 0);
        is("4 edge", e.edge(0, 5, 9), 4);
        is("4 edge", e.edge(3, 35, 9), 0);
        is("4 edge", e.edge(3, 35, 0), 9);
        is("4 edge", e.edge(0, 0, 0), 0);
        is("4 edge", e.edge(-1, 0, 0), UNKNOWN);
        is("4 edge", e.edge(4, 0, 0), UNKNOWN);
        is("4 edge", e.edge(0, -1, 0), UNKNOWN);
        is("4 edge", e.edge(0, 36, 0), UNKNOWN);
        is("4 edge, unknown first", e.edge(4, 0, 10), UNKNOWN);
        is("4 edge", e.edge(0, 5, -1), BAD);
        is("4 edge", e.edge(0, 5, 10), BAD);
        is("4 edge, refused", e.edge(0, 5, 9), 9);

        is("5 rise over 9", e.rise(0, 91), 59);
        is("5 rise, another land", e.rise(1, 91), 50);
        e.edge(1, 5, 9);
        e.edge(1, 6, 2);
        is("5 rise, lower edge in the next ten", e.rise(1, 80), 60);
        is("5 rise, sun at 55 goes 5 to 60", e.sun(80), 55);
        e.edge(1, 6, 7);
        is("5 rise, higher edge in the next ten", e.rise(1, 80), 62);
        e.edge(2, 13, 9);
        is("5 rise, farthest", e.rise(2, 273), 139);
        is("5 rise, a degree ahead of the hill", e.rise(2, 272), 129);
        is("5 rise", e.rise(-1, 0), UNKNOWN);
        is("5 rise", e.rise(4, 0), UNKNOWN);
        is("5 rise", e.rise(0, -1), UNKNOWN);
        is("5 rise", e.rise(0, 364), UNKNOWN);
    }

    private static void calendars() {
        EastNearly e = new EastNearly();
        is("7 day", e.day(10, 119), 10);
        is("7 day", e.day(10, 120), 11);
        is("7 day", e.day(10, 599), 14);
        is("7 day, round", e.day(363, 599), 3);
        is("6 switched", e.switched(240), 600);
        is("7 day ahead of the switch", e.day(10, 239), 11);
        is("7 day from the switch on", e.day(10, 240), 10);
        is("6 switched", e.switched(0), 240);
        is("7 day", e.day(10, 239), 10);
        is("6 switched", e.switched(-1), BAD);
        is("6 switched", e.switched(601), BAD);
        is("6 switched, refused", e.switched(600), 0);
        is("7 day", e.day(-1, 0), UNKNOWN);
        is("7 day", e.day(364, 0), UNKNOWN);
        is("7 day", e.day(0, -1), UNKNOWN);
        is("7 day", e.day(0, 600), UNKNOWN);
        is("8 feast", e.feast(363), 0);
        is("8 feast", e.feast(-1), UNKNOWN);
        is("8 feast", e.feast(364), UNKNOWN);
        is("8 feast, refused", e.feast(0), 363);
    }

    private static void text() {
        EastNearly e = new EastNearly();
        is("9 write", e.write(0, 0), BAD);
        is("9 write", e.write(-1, 0), BAD);
        is("9 write", e.write(9, 0), BAD);
        is("9 write, highest first", e.write(3, 0x7777_3130_302BL), 3);
        is("9 write", e.write(8, 0x2B30_313B_3239_392DL), 11);
        is("11 fault, the 0 was cut", e.fault(), 2);
        is("10 wipe", e.wipe(), 11);
        is("10 wipe", e.wipe(), 0);
        is("9 write, negative", e.write(8, -1L), 8);
        is("11 fault, byte 255", e.fault(), 0);
        for (int i = 2; i <= 6; i++) is("9 write", e.write(8, 0), 8 * i);
        is("9 write, full", e.write(1, 0), FULL);
        is("9 write, bad first", e.write(9, 0), BAD);
        is("10 wipe", e.wipe(), 48);
        for (int i = 1; i <= 5; i++) e.write(8, 0);
        e.write(1, 0);
        is("9 write, too long by one", e.write(8, 0), FULL);
        is("9 write, nothing came", e.count(5), 41);
        is("9 write, just full", e.write(7, 0), 48);
    }

    private static void faults() {
        String[] sound = {"000+00", "599-40", "000+00;001-00", "100+09;101-39;599+40",
            "000+00;001+00;002+00;003+00;004+00;005+00;006+00"};
        for (String text : sound) is("11 fault " + text, faultOf(text), NONE);
        String[] endEarly = {"", "1", "10", "100", "100+", "100+1", "100+10;", "100+10;598-40;", "100+10;2",
            "000+00;001+00;002+00;003+00;004+00;005+00;006+0"};
        for (String text : endEarly) is("11 fault " + text, faultOf(text), text.length());
        Object[][] faults = {{"6", 0}, {"60", 0}, {"a", 0}, {"+", 0}, {"5x", 1}, {"59:", 2}, {"100", 3}, {"100x", 3},
            {"1001", 3}, {"100+5", 4}, {"100+x", 4}, {"100+41", 5}, {"100+4/", 5}, {"100+3:", 5}, {"100+10,", 6},
            {"100+100", 6}, {"599+10;", 6}, {"599+10;6", 6}, {"598+10;59", 9}, {"598+10;598", 9}, {"200+10;1", 7},
            {"200+10;200", 9}, {"200+10;19", 7}, {"259+10;25", 8}, {"259+10;26", 9}, {"299+10;2", 7},
            {"250+10;250+10", 9}, {"250+10;251+1", 12}, {"250+10;;", 7}, {" 00+00", 0},
            {"000+00;001+00;002+00;003+00;004+00;005+00;006+00", NONE}};
        for (Object[] fault : faults) is("11 fault " + fault[0], faultOf((String) fault[0]), (Integer) fault[1]);
    }

    private static void book() {
        EastNearly e = new EastNearly();
        is("12 book, empty", e.book(), LATE);
        is("12 book", readBook(e, "100+10;200-20;350+40"), 3);
        is("12 the text stays", e.count(5), 20);
        is("12 entries", e.count(4), 3);
        int[][] needles = {{0, 110}, {100, 110}, {101, 110}, {103, 110}, {104, 109}, {133, 101}, {134, 100},
            {150, 95}, {199, 81}, {200, 80}, {201, 80}, {202, 80}, {203, 81}, {349, 139}, {350, 140}, {599, 140}};
        for (int[] needle : needles) is("13 needle " + needle[0], e.needle(needle[0]), needle[1]);
        write(e, ";3");
        is("12 book, a fault", e.book(), LATE);
        is("12 the book stays", e.count(4), 3);
        is("13 the book stays", e.needle(150), 95);
        is("10 wipe leaves the book", e.wipe(), 22);
        is("13 wipe leaves the book", e.needle(150), 95);
        is("12 another book", readBook(e, "300-07"), 1);
        is("13 one entry", e.needle(0), 93);
        is("13 one entry", e.needle(599), 93);
        is("12 longest", readBook(e, "000+00;001+01;002-02;003+03;004-04;005+05;599-40"), 7);
        is("13 last", e.needle(599), 60);
        is("13 third", e.needle(2), 98);
        is("13 needle", e.needle(-1), UNKNOWN);
        is("13 needle", e.needle(600), UNKNOWN);
    }

    private static void church() {
        EastNearly e = new EastNearly();
        is("14 church", e.church(-1, 0, 0, 0, 0), UNKNOWN);
        is("14 church", e.church(4, 0, 0, 0, 0), UNKNOWN);
        is("14 church", e.church(0, -1, 0, 0, 0), UNKNOWN);
        is("14 church", e.church(0, 360, 0, 0, 0), UNKNOWN);
        is("14 church", e.church(0, 0, 0, -1, 0), UNKNOWN);
        is("14 church", e.church(0, 0, 0, 600, 600), UNKNOWN);
        is("14 church", e.church(0, 0, 0, 599, 600), UNKNOWN);
        is("14 church, unknown first", e.church(0, 0, 10, 599, 600), UNKNOWN);
        is("14 church", e.church(0, 0, -1, 0, 0), BAD);
        is("14 church", e.church(0, 0, 10, 0, 0), BAD);
        is("14 church", e.church(0, 0, 0, 1, 0), BAD);
        is("14 church", e.church(0, 0, 0, 0, 61), BAD);
        is("14 none came", e.count(0), 0);
        is("14 church", e.church(3, 359, 9, 539, 599), 0);
        for (int i = 1; i < 10; i++) is("14 church", e.church(0, 0, 0, 0, 0), i);
        is("14 church, full", e.church(0, 0, 0, 0, 0), FULL);
        is("14 church, bad first", e.church(0, 0, 10, 0, 0), BAD);
        is("14 church, unknown first", e.church(0, 0, 0, 0, -1), UNKNOWN);
        int[] about = {3, 359, 9, 539, 599, NONE, NONE, NONE, NONE, NONE, NONE};
        for (int what = 0; what < 11; what++) is("16 about " + what, e.about(0, what), about[what]);
    }

    private static void tellAndAbout() {
        EastNearly e = withChurch(90, 2, 100, 110);
        is("15 tell", e.tell(0, 0, 363), NONE);
        is("15 tell", e.tell(0, 1, 359), NONE);
        is("15 tell", e.tell(0, 2, 0), NONE);
        is("15 tell", e.tell(1, 0, 0), UNKNOWN);
        is("15 tell", e.tell(-1, 0, 0), UNKNOWN);
        is("15 tell, unknown first", e.tell(1, 9, 0), UNKNOWN);
        is("15 tell", e.tell(0, -1, 0), BAD);
        is("15 tell", e.tell(0, 3, 0), BAD);
        is("15 tell", e.tell(0, 0, 364), BAD);
        is("15 tell", e.tell(0, 0, -1), BAD);
        is("15 tell", e.tell(0, 1, 360), BAD);
        is("15 tell", e.tell(0, 1, -1), BAD);
        is("15 tell", e.tell(0, 2, 360), BAD);
        is("15 tell", e.tell(0, 2, -8), BAD);
        e.choir(0, 7, 120, 130);
        int[] about = {0, 90, 2, 100, 110, 363, 359, 0, 7, 120, 130};
        for (int what = 0; what < 11; what++) is("16 about " + what, e.about(0, what), about[what]);
        is("15 tell NONE", e.tell(0, 0, NONE), 363);
        is("15 tell NONE", e.tell(0, 1, NONE), 359);
        is("15 tell NONE", e.tell(0, 2, NONE), 0);
        is("15 tell NONE again", e.tell(0, 0, NONE), NONE);
        is("16 about", e.about(0, -1), BAD);
        is("16 about", e.about(0, 11), BAD);
        is("16 about", e.about(1, 0), UNKNOWN);
        is("16 about, unknown first", e.about(-1, 11), UNKNOWN);
    }

    private static void lines() {
        EastNearly e = withBook("100+10");
        e.church(1, 90, 0, 100, 110);
        e.edge(1, 8, 3);
        is("17 true east", e.line(0, 0, 0), 90);
        is("17 no saint", e.line(1, 0, 0), NONE);
        is("17 needle", e.line(2, 0, 599), 100);
        is("17 no street", e.line(3, 0, 0), NONE);
        is("17 no old wall", e.line(4, 0, 0), NONE);
        is("17 the feast at first, no hill to 90", e.line(5, 0, 0), 90);
        e.tell(0, 0, 12);
        e.tell(0, 1, 200);
        e.tell(0, 2, 300);
        e.feast(11);
        is("17 saint, 85 and 3", e.line(1, 0, 0), 88);
        is("17 saint, a day later, 84 and 3", e.line(1, 0, 599), 86);
        is("17 street", e.line(3, 0, 5), 200);
        is("17 old wall", e.line(4, 0, 5), 300);
        is("17 feast, 86 and 3", e.line(5, 0, 0), 89);
        is("17 feast, 84 and 3", e.line(5, 0, 480), 87);
        e.switched(480);
        is("17 feast, switched", e.line(5, 0, 480), 89);
        is("17 line", e.line(-1, 0, 0), UNKNOWN);
        is("17 line", e.line(6, 0, 0), UNKNOWN);
        is("17 line", e.line(0, 1, 0), UNKNOWN);
        is("17 line", e.line(0, -1, 0), UNKNOWN);
        is("17 line", e.line(0, 0, -1), UNKNOWN);
        is("17 line", e.line(0, 0, 600), UNKNOWN);
    }

    private static void hits() {
        // the needle goes one degree every ten years from 90 on; the line 93 within 1 is that of the years 120 .. 149
        EastNearly e = withBook("100+00;200+10");
        e.church(0, 93, 1, 100, 160);
        is("18 hits", e.hits(2, 0), 30);
        is("18 hits", e.hits(0, 0), 0);
        is("18 hits, no saint", e.hits(1, 0), 0);
        is("19 hit, the first", e.hit(2, 0, 0), 120);
        is("19 hit, the last", e.hit(2, 0, 29), 149);
        is("19 hit", e.hit(2, 0, 30), NONE);
        is("19 hit", e.hit(2, 0, -1), NONE);
        is("19 hit", e.hit(0, 0, 0), NONE);
        is("19 hit, in the last of its years", withChurch(90, 0, 7, 9).hit(0, 0, 2), 9);
        e.church(0, 93, 3, 199, 199);
        is("18 off by just the slip", e.hits(0, 1), 1);
        is("18 off by more", e.hits(2, 1), 0);
        // the lines 359 and 2 lie three apart, the short way
        e.church(0, 2, 3, 10, 20);
        e.tell(2, 1, 359);
        is("18 round", e.hits(3, 2), 11);
        e.tell(2, 1, 358);
        is("18 round, too far", e.hits(3, 2), 0);
        // two hits with a gap: the day goes on ahead of the switch
        e.church(0, 89, 0, 115, 125);
        e.tell(3, 0, 2);
        is("18 only from 120 on", e.hits(1, 3), 6);
        is("19 only from 120 on", e.hit(1, 3, 0), 120);
        e.switched(123);
        is("18 till the switch", e.hits(1, 3), 3);
        is("19 till the switch", e.hit(1, 3, 2), 122);
        is("18 hits", e.hits(6, 0), UNKNOWN);
        is("18 hits", e.hits(-1, 0), UNKNOWN);
        is("18 hits", e.hits(0, 4), UNKNOWN);
        is("18 hits", e.hits(0, -1), UNKNOWN);
        is("19 hit", e.hit(6, 0, 0), UNKNOWN);
        is("19 hit", e.hit(0, 4, 0), UNKNOWN);
    }

    private static void explained() {
        EastNearly e = withBook("000+30");
        e.church(0, 90, 0, 0, 60);
        e.church(0, 120, 0, 0, 60);
        e.church(0, 200, 9, 0, 60);
        is("20 explain", e.explain(0), 1 + 32);
        is("20 explain", e.explain(1), 4);
        is("20 explain, none", e.explain(2), 0);
        e.tell(2, 1, 209);
        e.tell(2, 2, 191);
        is("20 street and wall", e.explain(2), 8 + 16);
        e.tell(0, 0, 182);
        is("20 with the saint", e.explain(0), 1 + 2 + 32);
        e.feast(10);
        is("20 another feast", e.explain(0), 1 + 2);
        is("20 explain", e.explain(3), UNKNOWN);
        is("20 explain", e.explain(-1), UNKNOWN);
        is("43 unexplained", e.count(3), 0);
        e.church(0, 270, 9, 0, 60);
        is("43 unexplained", e.count(3), 1);
        is("43 the first unexplained", withChurch(270, 0, 0, 0).count(3), 1);
    }

    private static void chances() {
        EastNearly e = withBook("100+00;200+10");
        e.church(0, 93, 1, 100, 159);
        is("21 chance 30 of 60 by 3", e.chance(2, 0, true), 1);
        is("21 chance 30 of 60 by 3", e.chance(2, 0, false), 6);
        is("21 chance, none", e.chance(0, 0, true), 0);
        is("21 chance, none", e.chance(0, 0, false), 1);
        e.church(0, 93, 3, 100, 124);
        is("21 chance 25 of 25 by 7", e.chance(2, 1, false), 7);
        e.church(0, 90, 0, 7, 7);
        is("21 chance, sure", e.chance(0, 2, true), 1);
        is("21 chance, sure", e.chance(0, 2, false), 1);
        is("21 chance", e.chance(6, 0, true), UNKNOWN);
        is("21 chance", e.chance(6, 0, false), UNKNOWN);
        is("21 chance", e.chance(0, 3, true), UNKNOWN);
    }

    private static void odds() {
        // in 60 years true east and the feast hit 60 times each, the needle 20
        EastNearly e = withBook("120-00;130+01");
        e.church(0, 90, 0, 110, 149);
        is("18 hits", e.hits(2, 0), 20);
        is("24 best", e.best(0), 0);
        is("23 odds", e.odds(0, 0, true), 2);
        is("23 odds", e.odds(0, 0, false), 5);
        is("23 odds", e.odds(2, 0, true), 1);
        is("23 odds", e.odds(2, 0, false), 5);
        is("23 odds, none", e.odds(1, 0, true), 0);
        is("23 odds, none", e.odds(1, 0, false), 1);
        is("22 weight", e.weight(2, 9), 1);
        is("24 best by weight", e.best(0), 2);
        is("23 odds 180 of 260", e.odds(2, 0, true), 9);
        is("23 odds 180 of 260", e.odds(2, 0, false), 13);
        is("22 weight", e.weight(2, 2), 9);
        is("24 best, alike", e.best(0), 0);
        is("22 weight", e.weight(0, 0), 1);
        is("24 best, alike", e.best(0), 2);
        is("23 odds, no weight", e.odds(0, 0, true), 0);
        is("22 weight", e.weight(2, 0), 2);
        is("24 best", e.best(0), 5);
        is("22 weight", e.weight(5, 0), 1);
        is("24 best, nothing left", e.best(0), LATE);
        is("23 odds, nothing left", e.odds(0, 0, true), LATE);
        is("23 odds, nothing left", e.odds(0, 0, false), LATE);
        is("20 weights explain nothing", e.explain(0), 1 + 4 + 32);
        is("22 weight", e.weight(-1, 0), UNKNOWN);
        is("22 weight", e.weight(6, 10), UNKNOWN);
        is("22 weight", e.weight(5, 10), BAD);
        is("22 weight", e.weight(5, -1), BAD);
        is("22 weight, refused", e.weight(5, 9), 0);
        is("23 odds", e.odds(6, 0, true), UNKNOWN);
        is("23 odds", e.odds(0, 1, false), UNKNOWN);
        is("24 best", e.best(1), UNKNOWN);
    }

    private static void fewestAndLook() {
        EastNearly e = new EastNearly();
        is("25 fewest", e.fewest(), 0);
        is("26 look", e.look(), NONE);
        e.feast(91);
        e.church(0, 200, 0, 0, 10);
        is("25 fewest, unexplained", e.fewest(), 0);
        is("26 look, unexplained", e.look(), 0);
        e.church(0, 50, 0, 0, 10);
        is("25 the feast", e.fewest(), 32);
        is("26 look", e.look(), 1);
        e.tell(1, 2, 50);
        is("25 the wall, less as a number", e.fewest(), 16);
        e.tell(0, 1, 200);
        is("25 street and wall", e.fewest(), 8 + 16);
        e.tell(0, 2, 200);
        is("25 the wall does for both", e.fewest(), 16);
        is("26 look, the first of two", e.look(), 0);
        e.church(0, 90, 0, 0, 10);
        is("25 east or needle", e.fewest(), 1 + 16);
        e.tell(2, 1, 90);
        is("26 look", e.look(), 2);
        // six churches, each with a rule of its own
        EastNearly f = withBook("000+30");
        f.feast(91);
        int[] lines = {90, 130, 120, 200, 210, 50};
        for (int line : lines) f.church(0, line, 0, 0, 10);
        f.tell(1, 0, 273);
        f.tell(3, 1, 200);
        f.tell(4, 2, 210);
        is("25 all six", f.fewest(), 63);
    }

    private static void daysOfLine() {
        EastNearly e = withChurch(50, 0, 0, 0);
        // sun(d) is 50 on the day 91 alone
        is("27 days", e.days(0), 1);
        is("28 on", e.on(0, 91), 1);
        is("28 on", e.on(0, 90), 0);
        e.church(0, 90, 0, 0, 0);
        is("27 days", e.days(1), 10);
        is("28 on", e.on(1, 0), 1);
        is("28 on", e.on(1, 363), 1);
        is("28 on", e.on(1, 361), 0);
        e.church(0, 270, 9, 0, 0);
        is("27 days, none", e.days(2), 0);
        e.edge(0, 5, 9);
        is("27 days, a hill", e.days(0), 0);
        is("28 on, a hill", e.on(0, 91), 0);
        e.church(0, 60, 1, 0, 0);
        is("28 on, behind the hill", e.on(3, 91), 1);
        is("27 days", e.days(4), UNKNOWN);
        is("27 days", e.days(-1), UNKNOWN);
        is("28 on", e.on(4, 0), UNKNOWN);
        is("28 on", e.on(0, -1), UNKNOWN);
        is("28 on", e.on(0, 364), UNKNOWN);
    }

    private static void saintsDealt() {
        EastNearly e = new EastNearly();
        is("29 own", e.own(), 0);
        is("30 deals", e.deals(0), 1);
        is("31 dealt", e.dealt(true), 1);
        is("31 dealt", e.dealt(false), 1);
        e.church(0, 90, 0, 0, 10);
        is("30 without a saint", e.deals(0), 1);
        // the saints of 0 and 2 fit 0 and 2, that of 1 fits 1 alone, that of 3 none
        e.tell(0, 0, 0);
        e.church(0, 50, 0, 0, 10);
        e.tell(1, 0, 91);
        e.church(1, 90, 0, 0, 10);
        e.church(0, 90, 0, 0, 10);
        e.tell(2, 0, 182);
        e.tell(3, 0, 45);
        is("29 own", e.own(), 3);
        // of 24: the saint of 1 at 1 (6 ways: those of 0, 2, 3 at 0, 2, 3, which all look east: 2 hits) ..
        is("30 deals 3", e.deals(3), 6);
        // .. or at 0, 2 or 3 (18 ways): then that of 3 at 1 (6 ways, 2 hits), or beside it (12 ways, 1 hit)
        is("30 deals 2", e.deals(2), 6);
        is("30 deals 1", e.deals(1), 12);
        is("30 deals 0", e.deals(0), 0);
        is("30 deals 10", e.deals(10), 0);
        is("31 dealt 6 of 24", e.dealt(true), 1);
        is("31 dealt 6 of 24", e.dealt(false), 4);
        e.tell(1, 0, 182);
        is("29 own, less", e.own(), 2);
        is("31 dealt, less", e.dealt(true), 1);
        is("31 dealt, all have so many", e.dealt(false), 1);
        // an odd number, of which the last saint fits the first church alone and the first saint none
        EastNearly f = withChurch(50, 0, 0, 10);
        f.church(0, 200, 0, 0, 10);
        f.church(0, 90, 0, 0, 10);
        f.tell(0, 0, 45);
        f.tell(1, 0, 0);
        f.tell(2, 0, 91);
        is("29 own, none", f.own(), 0);
        is("30 both fit", f.deals(2), 1);
        is("30 one fits", f.deals(1), 2);
        is("30 none fits", f.deals(0), 3);
        is("30 deals", e.deals(-1), BAD);
        is("30 deals", e.deals(11), BAD);
        tenSaints();
    }

    private static void tenSaints() {
        EastNearly e = new EastNearly();
        for (int i = 0; i < 10; i++) {
            e.church(0, 50 + 8 * i, 0, 0, 0);
            // the first day on which the sun comes up there, for the first five; none for the others
            e.tell(i, 0, i < 5 ? firstDayAt(e, 50 + 8 * i) : 90);
        }
        is("29 own", e.own(), 5);
        is("30 five fixed: 5!", e.deals(5), 120);
        is("31 dealt: 120 of 10!", e.dealt(true), 1);
        is("31 dealt: 120 of 10!", e.dealt(false), 30240);
        long all = 0;
        for (int k = 0; k <= 10; k++) all += e.deals(k);
        is("30 all deals", all, 3628800);
        // the saints of the last five fit now too, each its own church
        for (int i = 5; i < 10; i++) e.tell(i, 0, firstDayAt(e, 50 + 8 * i));
        is("29 own", e.own(), 10);
        is("30 one way", e.deals(10), 1);
        is("30 nine never", e.deals(9), 0);
        is("31 dealt: 1 of 10!", e.dealt(false), 3628800);
        for (int i = 5; i < 10; i++) e.tell(i, 0, 90);
        // k of five fixed points, nine other ways: 10! - 5 9! + 10 8! - 10 7! + 5 6! - 5!
        is("30 deals 0", e.deals(0), 3628800 - 5 * 362880 + 10 * 40320 - 10 * 5040 + 5 * 720 - 120);
    }

    private static int firstDayAt(EastNearly e, int line) {
        for (int day = 0; day < 364; day++) {
            if (e.sun(day) == line) return day;
        }
        return 0;
    }

    private static void needleAndLines() {
        EastNearly e = withBook("000+00;599+40");
        is("32 goes", e.goes(), 0);
        is("33 luck, none", e.luck(true), LATE);
        e.church(0, 90, 0, 0, 60);
        is("32 goes, one", e.goes(), 0);
        is("33 luck, one", e.luck(true), 1);
        is("33 luck, one", e.luck(false), 1);
        e.church(0, 100, 0, 200, 260);
        e.church(0, 110, 0, 400, 460);
        is("32 goes", e.goes(), 3);
        is("33 luck", e.luck(true), 1);
        is("33 luck", e.luck(false), 6);
        // less 90: 270 is 180 and 271 is -179
        e.church(0, 270, 0, 500, 560);
        is("32 goes, 180", e.goes(), 6);
        is("33 luck", e.luck(false), 24);
        e.church(0, 271, 0, 539, 599);
        is("32 goes, -179", e.goes(), 2);
        e.church(0, 271, 0, 539, 599);
        is("32 goes, alike do not count", e.goes(), -2);
        is("33 luck, six", e.luck(true) > 0 ? 1 : 0, 1);
        e.church(0, 0, 0, 0, 0);
        is("33 luck, seven", e.luck(true), LATE);
        is("33 luck, seven", e.luck(false), LATE);
        // the middle year of 101 .. 102 is 101: ahead of it the needle stands
        EastNearly f = withBook("101+00;102+40");
        f.church(0, 90, 0, 0, 0);
        f.church(0, 99, 0, 101, 102);
        is("32 the middle is cut", f.goes(), 0);
        f.church(0, 98, 0, 101, 103);
        is("32 the middle", f.goes(), 0);
        f.church(0, 80, 0, 103, 103);
        is("32 the other way", f.goes(), -2);
        is("33 luck, equal ones count", f.luck(true), 5);
        is("33 luck, equal ones count", f.luck(false), 6);
    }

    private static void dates() {
        // the needle is at 3 in the years 130 .. 139 going up, and 230 .. 239 going down
        EastNearly e = withBook("100+00;180+08;260+00");
        e.church(0, 93, 0, 500, 510);
        is("34 many", e.dated(0, 0), 20);
        is("34 first", e.dated(0, 1), 130);
        is("34 last", e.dated(0, 2), 239);
        is("34 spans", e.dated(0, 3), 2);
        e.church(0, 90, 0, 0, 0);
        is("34 from 0 on", e.dated(1, 1), 0);
        is("34 till 599", e.dated(1, 2), 599);
        is("34 spans at both ends", e.dated(1, 3), 2);
        e.church(0, 200, 0, 0, 0);
        is("34 never", e.dated(2, 0), 0);
        is("34 never", e.dated(2, 1), NONE);
        is("34 never", e.dated(2, 2), NONE);
        is("34 never", e.dated(2, 3), 0);
        e.church(0, 94, 9, 0, 0);
        is("34 always", e.dated(3, 0), 600);
        is("34 always", e.dated(3, 3), 1);
        EastNearly f = withBook("100+00;101+01;102+00");
        f.church(0, 90, 0, 0, 0);
        is("34 all but one", f.dated(0, 0), 599);
        is("34 spans with one year between", f.dated(0, 3), 2);
        is("34 dated", e.dated(4, 4), UNKNOWN);
        is("34 dated", e.dated(0, 4), BAD);
        is("34 dated", e.dated(0, -1), BAD);
    }

    private static void masters() {
        EastNearly e = new EastNearly();
        is("35 master", e.master(0, 0), 0);
        e.church(0, 358, 0, 100, 101);
        e.church(0, 2, 0, 100, 100);
        e.church(0, 6, 0, 103, 103);
        e.church(0, 182, 0, 98, 103);
        is("35 the first of single ones", e.master(3, 599), 1);
        is("35 the middle is cut", e.master(4, 0), 1 + 2);
        is("35 a pair only, less as a number", e.master(4, 3), 1 + 2);
        is("35 three", e.master(8, 3), 1 + 2 + 4);
        is("35 years apart", e.master(8, 2), 1 + 2);
        is("35 all", e.master(180, 3), 15);
        is("35 master, the far ones", e.master(179, 599), 1 + 2 + 4);
        is("35 master", e.master(-1, 0), BAD);
        is("35 master", e.master(181, 0), BAD);
        is("35 master", e.master(0, -1), BAD);
        is("35 master", e.master(0, 600), BAD);
        EastNearly f = new EastNearly();
        f.church(0, 0, 0, 0, 0);
        f.church(0, 100, 0, 0, 0);
        f.church(0, 101, 0, 0, 0);
        is("35 more go ahead of less", f.master(1, 0), 2 + 4);
    }

    private static void choirs() {
        EastNearly e = withChurch(350, 2, 100, 110);
        is("37 no choir", e.bends(0), LATE);
        is("38 no choir", e.why(0), LATE);
        is("36 choir", e.choir(1, 0, 111, 111), UNKNOWN);
        is("36 choir", e.choir(-1, 0, 111, 111), UNKNOWN);
        is("36 choir", e.choir(0, -9, 111, 111), UNKNOWN);
        is("36 choir", e.choir(0, 360, 111, 111), UNKNOWN);
        is("36 choir", e.choir(0, 0, -1, 111), UNKNOWN);
        is("36 choir", e.choir(0, 0, 111, 600), UNKNOWN);
        is("36 choir, unknown first", e.choir(0, 0, 600, 111), UNKNOWN);
        is("36 choir", e.choir(0, 0, 111, 110), BAD);
        is("36 choir", e.choir(0, 0, 111, 172), BAD);
        is("36 choir, bad first", e.choir(0, 0, 110, 109), BAD);
        is("36 choir, not later", e.choir(0, 0, 110, 120), LATE);
        is("36 refused", e.about(0, 8), NONE);
        is("36 refused", e.about(0, 9), NONE);
        is("36 choir", e.choir(0, 10, 111, 171), NONE);
        is("37 bends", e.bends(0), 20);
        is("36 another choir", e.choir(0, 170, 120, 120), 10);
        is("37 bends", e.bends(0), 180);
        is("16 its years", e.about(0, 9), 120);
        is("16 its years", e.about(0, 10), 120);
        is("43 choirs", e.count(2), 1);
        is("38 why, none", e.why(0), NONE);
        e.tell(0, 2, 172);
        is("38 why, the wall within the slip", e.why(0), 4);
        e.tell(0, 1, 168);
        is("38 why, the street is less", e.why(0), 3);
        e.tell(0, 1, 167);
        is("38 why, too far", e.why(0), 4);
        is("37 bends", e.bends(1), UNKNOWN);
        is("38 why", e.why(1), UNKNOWN);
        EastNearly g = withChurch(70, 0, 100, 110);
        g.choir(0, 90, 200, 210);
        is("38 why, true east", g.why(0), 0);
        // the needle reaches the line only in the choir's years; true east explains both
        EastNearly f = withBook("200+10;210+00");
        f.church(0, 90, 0, 100, 110);
        f.choir(0, 90, 205, 212);
        is("38 the choir's years", f.why(0), 2);
        f.choir(0, 90, 200, 208);
        is("38 too early", f.why(0), NONE);
    }

    private static void changedSaints() {
        EastNearly e = withChurch(90, 0, 100, 110);
        is("39 no saint", e.when(0, 0, 0), LATE);
        is("40 no saint", e.since(0, 0), LATE);
        e.tell(0, 0, 45);
        is("39 the other date from 104 on", e.when(0, 0, 104), 7);
        is("39 from 100 on", e.when(0, 0, 100), 11);
        is("39 from 110 on", e.when(0, 0, 110), 1);
        is("39 from 111 on", e.when(0, 0, 111), 0);
        is("39 neither", e.when(0, 50, 104), 0);
        is("40 at once", e.since(0, 0), 0);
        is("40 neither, the least", e.since(0, 50), 0);
        e.tell(0, 0, 182);
        is("39 ahead of 104", e.when(0, 45, 104), 4);
        is("40 never", e.since(0, 45), 111);
        is("40 alike, the least", e.since(0, 0), 0);
        EastNearly one = withChurch(90, 0, 100, 100);
        one.tell(0, 0, 182);
        is("40 a year more", one.since(0, 45), 101);
        is("39 when", e.when(1, 0, 0), UNKNOWN);
        is("39 when", e.when(0, -1, 0), UNKNOWN);
        is("39 when", e.when(0, 364, 0), UNKNOWN);
        is("39 when", e.when(0, 0, -1), UNKNOWN);
        is("39 when", e.when(0, 0, 600), UNKNOWN);
        is("40 since", e.since(1, 0), UNKNOWN);
        is("40 since", e.since(0, -1), UNKNOWN);
        is("40 since", e.since(0, 364), UNKNOWN);
        is("39 the saint stays", e.about(0, 5), 182);
        // the sun is at 89 on the days 3 and 4: the saint's are 4, and 5 from 120 on; the other's are 2, and 3 from 120 on
        EastNearly f = withChurch(89, 0, 115, 125);
        f.tell(0, 0, 4);
        is("39 the saint's days", f.when(0, 2, 599), 5);
        is("40 from 120 on", f.since(0, 2), 120);
        is("39 all of them", f.when(0, 2, 120), 11);
        EastNearly g = withChurch(90, 0, 540, 599);
        g.tell(0, 0, 180);
        is("40 never, till 600", g.since(0, 45), 600);
        is("39 unknown ahead of late", withChurch(0, 0, 0, 0).when(0, 364, 0), UNKNOWN);
    }

    private static void slots() {
        EastNearly e = withChurch(90, 0, 100, 110);
        is("42 nothing kept", e.again(0), LATE);
        is("41 keep", e.keep(-1), UNKNOWN);
        is("41 keep", e.keep(2), UNKNOWN);
        is("42 again", e.again(-1), UNKNOWN);
        is("42 again", e.again(2), UNKNOWN);
        e.tell(0, 0, 5);
        e.tell(0, 1, 6);
        e.tell(0, 2, 7);
        e.choir(0, 80, 200, 210);
        is("41 keep", e.keep(0), 1);
        e.tell(0, 0, NONE);
        e.tell(0, 1, 106);
        e.tell(0, 2, 107);
        e.choir(0, 180, 300, 310);
        e.church(1, 91, 1, 101, 111);
        is("41 keep", e.keep(1), 2);
        is("42 again", e.again(0), 1);
        is("42 as it was", e.count(0), 1);
        is("42 as it was", e.about(1, 0), UNKNOWN);
        int[] about = {0, 90, 0, 100, 110, 5, 6, 7, 80, 200, 210};
        for (int what = 0; what < 11; what++) is("42 about " + what, e.about(0, what), about[what]);
        e.tell(0, 0, 99);
        is("42 the slot is not the church", e.again(0), 1);
        is("42 again", e.about(0, 5), 5);
        is("42 the other slot", e.again(1), 2);
        is("42 the other slot", e.about(0, 5), NONE);
        is("42 the other slot", e.about(1, 1), 91);
        e.weight(0, 5);
        e.feast(9);
        e.again(0);
        is("42 weights are no churches", e.weight(0, 1), 5);
        is("42 the feast is no church", e.feast(0), 9);
        is("14 the next number", e.church(0, 0, 0, 0, 0), 1);
        is("14 with nothing told", e.about(1, 5), NONE);
        for (int i = 2; i < 10; i++) e.church(i % 4, 10 * i, i % 10, i, 2 * i);
        is("41 keep ten", e.keep(1), 10);
        e.again(0);
        for (int i = 1; i < 10; i++) e.church(0, 0, 0, 0, 0);
        is("42 again ten", e.again(1), 10);
        is("42 the last", e.about(9, 1), 90);
        is("42 the last", e.about(9, 4), 18);
        // no churches are as much a state to keep as some
        EastNearly f = new EastNearly();
        is("41 none there", f.keep(1), 0);
        f.church(3, 0, 0, 0, 0);
        is("41 keep", f.keep(0), 1);
        is("42 none there", f.again(1), 0);
        is("42 none there", f.count(0), 0);
        f.church(1, 0, 0, 0, 0);
        f.again(0);
        is("42 its land too", f.about(0, 0), 3);
    }

    private static void counts() {
        EastNearly e = withBook("100+10;200-20");
        e.church(0, 90, 0, 0, 0);
        e.church(0, 91, 0, 0, 0);
        e.church(0, 92, 0, 0, 0);
        e.tell(1, 0, 0);
        e.tell(2, 0, 0);
        e.choir(2, 0, 1, 1);
        int[] counts = {3, 2, 1, 2, 2, 13};
        for (int what = 0; what < 6; what++) is("43 count " + what, e.count(what), counts[what]);
        is("43 count", e.count(-1), BAD);
        is("43 count", e.count(6), BAD);
    }

    public static void main(String[] args) {
        newObject();
        degreesOff();
        sun();
        edgeAndRise();
        calendars();
        text();
        faults();
        book();
        church();
        tellAndAbout();
        lines();
        hits();
        explained();
        chances();
        odds();
        fewestAndLook();
        daysOfLine();
        saintsDealt();
        needleAndLines();
        dates();
        masters();
        choirs();
        changedSaints();
        slots();
        counts();
        due.end("PromisesTest");
    }
}
