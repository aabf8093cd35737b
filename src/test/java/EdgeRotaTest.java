/**
 * Boundary cases of PSALMS, SERVICES, ROTA and AWAY, and of promises 11 to 18. Each test stands behind the sentence of the
 * document that it holds to. With FIRST 1 and no LEAP YEARS DAY 1 of YEAR 1 is a Monday, and its Sundays are 7, 14 .. 364.
 */
public final class EdgeRotaTest {
    private static final Check CHECK = new Check();
    private static final int[] NO_YEARS = {0, 1000, -1, Integer.MIN_VALUE, Integer.MAX_VALUE};
    private static final int[] NO_DAYS = {366, 367, -1, Integer.MIN_VALUE, Integer.MAX_VALUE};

    public static void main(String[] args) {
        courseBeginsWithOne();
        psalmsGoRound();
        oneForEachDay();
        greatestPsalter();
        ranksThatRead();
        highFirstDay();
        throughIsCutTowardsZero();
        servicesByRank();
        servicesOfAllDays();
        fewestFirst();
        noneOnThisDayAheadOfFewest();
        allHadOneOnThisDay();
        missedServices();
        ruleLeastNumber();
        ruleLongestAgo();
        ruleLongestAgoAmongThoseWithNone();
        ruleGreatestNumber();
        rotaBeginsAnewInEachYear();
        awayOnItsFirstAndLastDay();
        awayForOneDay();
        awayNever();
        awayOnDay0();
        awayOnDay366();
        awayAtFirst();
        awayInEachYear();
        yearNumbers();
        yearStateAheadOfBad();
        sundaysOfAYear();
        daysWithAFeast();
        rememberedInAYear();
        dayNumbers();
        dayStateAheadOfBad();
        dayWithoutAFeast();
        rememberedOnADay();
        heldNumbers();
        heldWithoutABook();
        psalmNumbers();
        psalmStateAheadOfBad();
        readNumbers();
        readStateAheadOfBad();
        readTimes();
        readFarMoreOften();
        readNotOnHighDays();
        singsNumbers();
        singsStateAheadOfBad();
        singsNotSoMany();
        dutiesNumbers();
        dutiesWithoutABook();
        dutiesUpToADay();
        fairNumbers();
        fairStateAheadOfBad();
        fairOfThoseWhoAreAway();
        call512();
        CHECK.end();
    }

    private static FeastRota psalter(int psalms, int each) {
        return Check.of("k0,0,1;p" + psalms + "," + each + ";c2,0;");
    }

    private static FeastRota choirs(int choirs, int rule) {
        return Check.of("k0,0,1;p10,1;c" + choirs + "," + rule + ";");
    }

    private static void reads(FeastRota x, int y, int d, int first, int last, int through) {
        CHECK.due("first of " + d, x.psalm(y, d, 0), first);
        CHECK.due("last of " + d, x.psalm(y, d, 1), last);
        CHECK.due("through behind " + d, x.psalm(y, d, 2), through);
    }

    private static void sung(FeastRota x, int y, int d, int... choirs) {
        for (int i = 0; i < choirs.length; i++) {
            CHECK.due("sings " + y + " " + d + " " + i, x.sings(y, d, i), choirs[i]);
        }
        CHECK.due("sings " + y + " " + d + " no more", x.sings(y, d, choirs.length), Check.NONE);
    }

    /** "the COURSE of a YEAR begins with 1" */
    private static void courseBeginsWithOne() {
        FeastRota x = psalter(11, 3);
        for (int y : new int[] {1, 2, 999}) {
            reads(x, y, 1, 1, 3, 0);
        }
    }

    /** "PSALMS 1 to as many as there are, in a ring" */
    private static void psalmsGoRound() {
        FeastRota x = psalter(10, 9);
        reads(x, 1, 1, 1, 9, 0);
        reads(x, 1, 2, 10, 8, 1);
        reads(x, 1, 3, 9, 7, 2);
        reads(x, 1, 10, 2, 10, 9);
        reads(x, 1, 11, 1, 9, 9);
        reads(x, 1, 365, 7, 5, 328);
    }

    /** "the next EACH of them are read", of one EACH. */
    private static void oneForEachDay() {
        FeastRota x = psalter(10, 1);
        reads(x, 1, 9, 9, 9, 0);
        reads(x, 1, 10, 10, 10, 1);
        reads(x, 1, 11, 1, 1, 1);
    }

    /** The same of the greatest psalter. */
    private static void greatestPsalter() {
        FeastRota x = psalter(150, 1);
        reads(x, 1, 149, 149, 149, 0);
        reads(x, 1, 150, 150, 150, 1);
        reads(x, 1, 151, 1, 1, 1);
        reads(x, 1, 300, 150, 150, 2);
        reads(x, 1, 365, 65, 65, 2);
    }

    /** "on each DAY of RANK 3 or less .., on others none" "(what = 0; NONE: none is read), the last one (1; NONE)" */
    private static void ranksThatRead() {
        for (int rank = 1; rank <= 5; rank++) {
            FeastRota x = Check.of("k0,0,1;d2," + rank + ",1;p10,3;c2,0;");
            boolean isRead = rank <= 3;
            reads(x, 1, 2, isRead ? 4 : Check.NONE, isRead ? 6 : Check.NONE, 0);
            reads(x, 1, 3, isRead ? 7 : 4, isRead ? 9 : 6, 0);
            reads(x, 1, 4, isRead ? 10 : 7, isRead ? 2 : 9, isRead ? 1 : 0);
        }
        // a Sunday is of RANK 3
        reads(psalter(10, 1), 1, 7, 7, 7, 0);
    }

    /** "the COURSE of a YEAR begins with 1", though nothing is read on DAY 1. */
    private static void highFirstDay() {
        FeastRota x = Check.of("k0,0,1;d1,4,1;p10,3;c2,0;");
        reads(x, 1, 1, Check.NONE, Check.NONE, 0);
        reads(x, 1, 2, 1, 3, 0);
    }

    /** "All that is divided is cut towards 0", of "how often the psalter was through behind that DAY (2)". */
    private static void throughIsCutTowardsZero() {
        FeastRota x = psalter(14, 9);
        int[] through = {0, 1, 1, 2, 3, 3, 4, 5, 5, 6, 7, 7, 8, 9};
        for (int d = 1; d <= 14; d++) {
            CHECK.due("through behind " + d, x.psalm(1, d, 2), through[d - 1]);
        }
    }

    /** "SERVICES of a DAY by its RANK: 0, 1: 1; 2, 3: 2; 4: 3; 5: 4" */
    private static void servicesByRank() {
        int[] services = {1, 1, 2, 2, 3, 4};
        FeastRota x = Check.of("k0,0,1;d1,1,1;d2,2,1;d3,3,1;d4,4,1;d5,5,1;p10,3;c5,0;");
        for (int rank = 1; rank <= 5; rank++) {
            CHECK.due("rank " + rank, x.day(1, rank, 4), services[rank]);
            CHECK.due("the last of them", x.sings(1, rank, services[rank] - 1) >= 0 ? 1 : 0, 1);
            CHECK.due("no more", x.sings(1, rank, services[rank]), Check.NONE);
        }
        CHECK.due("rank 0", x.day(1, 6, 4), 1);
        CHECK.due("a Sunday", x.day(1, 7, 4), 2);
    }

    /** "7 SERVICES of all DAYS", the first and the last one with them. */
    private static void servicesOfAllDays() {
        FeastRota x = Check.of("k1,0,1;p10,3;c5,0;");
        CHECK.due("52 Sundays", x.year(1, 7), 365 + 52);
        x.add(3, 1, 5, 1);
        CHECK.due("4 on day 1", x.year(1, 7), 365 + 52 + 3);
        x.add(3, 365, 5, 1);
        CHECK.due("4 on day 365", x.year(1, 7), 365 + 52 + 6);
        // DAY 1 of YEAR 4 is a Thursday, DAY 366 a Friday
        CHECK.due("4 on day 366", x.year(4, 7), 366 + 52 + 6);
    }

    /** "each goes to the CHOIR that has the fewest by then (in this YEAR) of those that are not AWAY" */
    private static void fewestFirst() {
        FeastRota x = choirs(3, 2);
        x.away(0, 1, 4);
        sung(x, 1, 1, 2);
        sung(x, 1, 2, 1);
        sung(x, 1, 3, 2);
        sung(x, 1, 4, 1);
        sung(x, 1, 5, 0);
        sung(x, 1, 6, 0);
        sung(x, 1, 7, 2, 1);
        sung(x, 1, 8, 0);
    }

    /** "and had none on this DAY; if there is none such, of those that are not AWAY" */
    private static void noneOnThisDayAheadOfFewest() {
        FeastRota x = Check.of("k0,0,1;d6,4,1;p10,1;c2,0;");
        x.away(0, 1, 5);
        // choir 0 has 1, choir 1 has 5, yet it goes ahead, as it had none on this DAY
        sung(x, 1, 6, 0, 1, 0);
        x.add(3, 5, 5, 1);
        sung(x, 1, 5, 1, 1, 1, 1);
        x.alter(1, 1, 6);
        sung(x, 1, 6, 0, 1, 0, 0);
    }

    /** "if there is none such, of those that are not AWAY", by the RULE. */
    private static void allHadOneOnThisDay() {
        int[][] want = {{0, 1, 0, 1}, {0, 1, 0, 1}, {1, 0, 1, 0}};
        for (int rule = 0; rule <= 2; rule++) {
            sung(Check.of("k0,0,1;d1,5,1;p10,1;c2," + rule + ";"), 1, 1, want[rule]);
        }
        sung(Check.of("k0,0,1;d1,5,1;p10,1;c3,0;"), 1, 1, 0, 1, 2, 0);
        sung(Check.of("k0,0,1;d1,5,1;p10,1;c4,0;"), 1, 1, 0, 1, 2, 3);
        sung(Check.of("k0,0,1;d1,5,1;p10,1;c5,2;"), 1, 1, 4, 3, 2, 1);
        FeastRota x = Check.of("k0,0,1;d1,5,1;p10,1;c3,0;");
        x.away(1, 1, 1);
        sung(x, 1, 1, 0, 2, 0, 2);
    }

    /** "if there is none, to nobody (MISSED)" "8 MISSED ones" "NONE: .. or it is MISSED" */
    private static void missedServices() {
        FeastRota x = Check.of("k0,0,1;d3,5,1;p10,1;c2,0;");
        CHECK.due("none", x.year(1, 8), 0);
        x.away(0, 2, 3);
        CHECK.due("none while one is there", x.year(1, 8), 0);
        x.away(1, 3, 4);
        CHECK.due("those of day 3", x.year(1, 8), 4);
        sung(x, 1, 2, 1);
        sung(x, 1, 3, Check.NONE, Check.NONE, Check.NONE, Check.NONE);
        sung(x, 1, 4, 0);
        CHECK.due("they count for nobody", x.duties(0, 1, 3) + x.duties(1, 1, 3), 2);
        CHECK.due("they are services", x.year(1, 7), 365 + 52 + 3);
        x.away(0, 0, 366);
        x.away(1, 0, 366);
        CHECK.due("all", x.year(1, 8), 365 + 52 + 3);
    }

    /** "Of several by RULE: 0 the least number" */
    private static void ruleLeastNumber() {
        FeastRota x = choirs(3, 0);
        x.away(0, 1, 1);
        sung(x, 1, 1, 1);
        sung(x, 1, 2, 0);
        sung(x, 1, 3, 2);
        sung(x, 1, 4, 0);
    }

    /** "1 that whose latest one was longest ago" */
    private static void ruleLongestAgo() {
        FeastRota x = choirs(3, 1);
        x.away(0, 1, 1);
        sung(x, 1, 1, 1);
        sung(x, 1, 2, 0);
        sung(x, 1, 3, 2);
        sung(x, 1, 4, 1);
        sung(x, 1, 5, 0);
        sung(x, 1, 6, 2);
        sung(x, 1, 7, 1, 0);
    }

    /** "(one that had none in this YEAR first; of several the least number)" */
    private static void ruleLongestAgoAmongThoseWithNone() {
        FeastRota x = choirs(5, 1);
        for (int c = 0; c < 5; c++) {
            sung(x, 1, c + 1, c);
        }
        x.away(1, 1, 4);
        sung(x, 1, 1, 0);
        sung(x, 1, 2, 2);
        sung(x, 1, 3, 3);
        sung(x, 1, 4, 4);
        sung(x, 1, 5, 1);
    }

    /** "2 the greatest number" */
    private static void ruleGreatestNumber() {
        FeastRota x = choirs(5, 2);
        for (int c = 4; c >= 0; c--) {
            sung(x, 1, 5 - c, c);
        }
        sung(x, 1, 6, 4);
    }

    /** "(in this YEAR)": an odd number of SERVICES in YEAR 1, and YEAR 2 begins with the same CHOIR again. */
    private static void rotaBeginsAnewInEachYear() {
        for (int rule = 0; rule <= 2; rule++) {
            FeastRota x = choirs(2, rule);
            int first = rule == 2 ? 1 : 0;
            sung(x, 1, 1, first);
            sung(x, 1, 365, first);
            sung(x, 2, 1, first);
        }
    }

    /** "AWAY is a CHOIR on DAYS from one to another": both with them. */
    private static void awayOnItsFirstAndLastDay() {
        FeastRota x = choirs(2, 0);
        x.away(0, 3, 5);
        sung(x, 1, 1, 0);
        sung(x, 1, 2, 1);
        sung(x, 1, 3, 1);
        sung(x, 1, 4, 1);
        sung(x, 1, 5, 1);
        sung(x, 1, 6, 0);
        x.away(0, 1, 365);
        sung(x, 1, 1, 1);
        sung(x, 1, 365, 1);
        CHECK.due("on no day", x.duties(0, 1, 365), 0);
        x.away(0, 2, 365);
        CHECK.due("on day 1 alone", x.duties(0, 1, 1) * 10 + x.duties(0, 1, 365), 11);
        x.away(0, 1, 364);
        CHECK.due("on day 365 alone", x.duties(0, 1, 364) * 10 + x.duties(0, 1, 365), 1);
    }

    /** The same from a DAY to itself. */
    private static void awayForOneDay() {
        FeastRota x = choirs(2, 0);
        x.away(0, 3, 3);
        sung(x, 1, 3, 1);
        sung(x, 1, 4, 0);
        sung(x, 1, 5, 0);
        x.away(0, 1, 1);
        sung(x, 1, 1, 1);
        sung(x, 1, 2, 0);
    }

    /** "from more than to: never" */
    private static void awayNever() {
        FeastRota x = choirs(2, 0);
        for (int[] span : new int[][] {{4, 3}, {366, 0}, {365, 1}, {1, 0}, {366, 365}}) {
            x.away(0, span[0], span[1]);
            for (int d = 1; d <= 6; d++) {
                sung(x, 1, d, (d - 1) % 2);
            }
            sung(x, 1, 365, 0);
        }
    }

    /** "(0 to 366 both": DAY 0 is none. */
    private static void awayOnDay0() {
        FeastRota x = choirs(2, 0);
        x.away(0, 0, 0);
        sung(x, 1, 1, 0);
        CHECK.due("all year", x.duties(0, 1, 365), 209);
        x.away(0, 0, 1);
        sung(x, 1, 1, 1);
        sung(x, 1, 2, 0);
    }

    /** "(0 to 366 both": DAY 366 is one in LEAP YEARS. */
    private static void awayOnDay366() {
        FeastRota x = Check.of("k1,0,1;p10,1;c2,0;");
        // 418 SERVICES in YEAR 4, 417 up to DAY 365: the last one would be for choir 1
        sung(x, 4, 366, 1);
        x.away(1, 366, 366);
        sung(x, 4, 366, 0);
        sung(x, 4, 365, 0);
        sung(x, 3, 365, 0);
        CHECK.due("year 3", x.duties(1, 3, 365), 208);
        x.away(0, 366, 366);
        CHECK.due("missed in year 4", x.year(4, 8), 1);
        CHECK.due("missed in year 3", x.year(3, 8), 0);
    }

    /** "at first 1 to 0" */
    private static void awayAtFirst() {
        FeastRota x = choirs(5, 0);
        for (int c = 0; c < 5; c++) {
            sung(x, 1, c + 1, c);
        }
        CHECK.due("missed", x.year(1, 8), 0);
    }

    /** "in each YEAR" */
    private static void awayInEachYear() {
        FeastRota x = choirs(2, 0);
        x.away(0, 1, 1);
        for (int y : new int[] {1, 2, 500, 999}) {
            CHECK.due("not on day 1 of " + y, x.duties(0, y, 1), 0);
        }
    }

    /** "Of a YEAR: 0 how many DAYS .. 8 MISSED ones. BAD" */
    private static void yearNumbers() {
        FeastRota x = choirs(2, 0);
        int[] want = {365, 1, 99, 105, 52, 0, 0, 417, 0};
        for (int what = 0; what <= 8; what++) {
            CHECK.due("what " + what, x.year(1, what), want[what]);
            CHECK.due("the last year", x.year(999, what) >= 0 ? 1 : 0, 1);
            for (int y : NO_YEARS) {
                CHECK.due("year " + y, x.year(y, what), Check.BAD);
            }
        }
        for (int what : new int[] {-1, 9, Integer.MIN_VALUE, Integer.MAX_VALUE}) {
            CHECK.due("what " + what, x.year(1, what), Check.BAD);
        }
    }

    /** "STATE: no BOOK (ahead of BAD)" of year. */
    private static void yearStateAheadOfBad() {
        FeastRota x = new FeastRota();
        for (int what = -1; what <= 9; what++) {
            CHECK.due("year 1", x.year(1, what), Check.STATE);
            CHECK.due("year 0", x.year(0, what), Check.STATE);
            CHECK.due("year 1000", x.year(1000, what), Check.STATE);
        }
    }

    /** "4 how many Sundays": 53 if DAY 1 or, in a LEAP YEAR, 2 is one. */
    private static void sundaysOfAYear() {
        for (int first = 0; first <= 6; first++) {
            FeastRota x = Check.of("k1,0," + first + ";p10,1;c2,0;");
            CHECK.due("year 1", x.year(1, 4), first == 0 ? 53 : 52);
            int start = (first + 3) % 7;
            CHECK.due("year 4", x.year(4, 4), start == 0 || start == 6 ? 53 : 52);
        }
    }

    /** "5 DAYS on which a FEAST is HELD": on its OWN DAY or MOVED, none and all twelve. */
    private static void daysWithAFeast() {
        CHECK.due("none", choirs(2, 0).year(1, 5), 0);
        FeastRota x = Check.of("k0,0,1;" + "d10,5,1;".repeat(12) + "p10,1;c2,0;");
        CHECK.due("one on its own day, eleven moved", x.year(1, 5), 12);
        x.alter(0, 2, 1);
        CHECK.due("one is left out", x.year(1, 5), 11);
        x.alter(11, 1, 365);
        CHECK.due("another one on its own day", x.year(1, 5), 11);
        x.alter(10, 1, 365);
        CHECK.due("one is lost", x.year(1, 5), 10);
    }

    /** "6 FEASTS that are REMEMBERED", the first and the twelfth with them. */
    private static void rememberedInAYear() {
        FeastRota x = Check.of("k0,0,1;" + "d7,2,1;".repeat(12) + "p10,1;c2,0;");
        CHECK.due("all", x.year(1, 6), 12);
        x.alter(0, 1, 8);
        CHECK.due("but for the first", x.year(1, 6), 11);
        x.alter(11, 1, 9);
        CHECK.due("and the twelfth", x.year(1, 6), 10);
        x.alter(1, 2, 1);
        CHECK.due("left out is not remembered", x.year(1, 6), 9);
        CHECK.due("none", choirs(2, 0).year(1, 6), 0);
    }

    /** "Of a DAY: 0 its WEEKDAY .. 5 how many FEASTS are REMEMBERED on it. BAD" */
    private static void dayNumbers() {
        FeastRota x = choirs(2, 0);
        int[] want = {1, Check.NONE, 0, 0, 1, 0};
        for (int what = 0; what <= 5; what++) {
            CHECK.due("the first day", x.day(1, 1, what), want[what]);
            CHECK.due("the last day", x.day(1, 365, what), want[what]);
            for (int y : NO_YEARS) {
                CHECK.due("year " + y, x.day(y, 1, what), Check.BAD);
            }
            for (int d : NO_DAYS) {
                CHECK.due("day " + d, x.day(1, d, what), Check.BAD);
            }
            CHECK.due("day 0", x.day(1, 0, what), Check.BAD);
        }
        for (int what : new int[] {-1, 6, Integer.MIN_VALUE, Integer.MAX_VALUE}) {
            CHECK.due("what " + what, x.day(1, 1, what), Check.BAD);
        }
        x.law(0, 1);
        CHECK.due("day 366 of year 4", x.day(4, 366, 0), 5);
        CHECK.due("day 367 of year 4", x.day(4, 367, 0), Check.BAD);
    }

    /** "STATE: no BOOK (ahead of BAD)" of day. */
    private static void dayStateAheadOfBad() {
        FeastRota x = new FeastRota();
        CHECK.due("good", x.day(1, 1, 0), Check.STATE);
        CHECK.due("year", x.day(0, 1, 0), Check.STATE);
        CHECK.due("day", x.day(1, 0, 0), Check.STATE);
        CHECK.due("what", x.day(1, 1, 6), Check.STATE);
    }

    /** "1 the FEAST HELD there (NONE)" */
    private static void dayWithoutAFeast() {
        FeastRota x = Check.of("k0,0,1;d1,5,1;d365,5,1;d7,2,1;p10,1;c2,0;");
        CHECK.due("day 1", x.day(1, 1, 1), 0);
        CHECK.due("day 365", x.day(1, 365, 1), 1);
        CHECK.due("day 2", x.day(1, 2, 1), Check.NONE);
        CHECK.due("remembered, not held", x.day(1, 7, 1), Check.NONE);
    }

    /** "5 how many FEASTS are REMEMBERED on it" */
    private static void rememberedOnADay() {
        FeastRota x = Check.of("k0,0,1;" + "d7,2,1;".repeat(11) + "d365,5,1;p10,1;c2,0;");
        CHECK.due("day 7", x.day(1, 7, 5), 11);
        CHECK.due("day 6", x.day(1, 6, 5), 0);
        CHECK.due("day 8", x.day(1, 8, 5), 0);
        x.alter(0, 1, 365);
        CHECK.due("day 7", x.day(1, 7, 5), 10);
        CHECK.due("day 365", x.day(1, 365, 5), 1);
        x.alter(1, 2, 1);
        CHECK.due("left out is not remembered", x.day(1, 7, 5), 9);
    }

    /** "Of a FEAST in a YEAR: 0 how it is .. 2 the DAY on which it is HELD or REMEMBERED (NONE). BAD." */
    private static void heldNumbers() {
        FeastRota x = Check.of("k0,0,1;d5,5,1;d6,5,1;p10,1;c2,0;");
        int[] want = {1, 6, 6};
        for (int what = 0; what <= 2; what++) {
            CHECK.due("the last feast", x.held(1, 1, what), want[what]);
            CHECK.due("the last year", x.held(1, 999, what), want[what]);
            for (int y : NO_YEARS) {
                CHECK.due("year " + y, x.held(1, y, what), Check.BAD);
            }
            for (int f : new int[] {-1, 2, 11, 12, Integer.MIN_VALUE, Integer.MAX_VALUE}) {
                CHECK.due("feast " + f, x.held(f, 1, what), Check.BAD);
            }
        }
        for (int what : new int[] {-1, 3, Integer.MIN_VALUE, Integer.MAX_VALUE}) {
            CHECK.due("what " + what, x.held(1, 1, what), Check.BAD);
        }
    }

    /** "BAD" of held: without a BOOK there is no FEAST. */
    private static void heldWithoutABook() {
        CHECK.due("no book", new FeastRota().held(0, 1, 0), Check.BAD);
        CHECK.due("no feast", choirs(2, 0).held(0, 1, 0), Check.BAD);
    }

    /** "The first psalm (what = 0 ..) .. through behind that DAY (2). BAD" */
    private static void psalmNumbers() {
        FeastRota x = psalter(10, 3);
        int[] first = {1, 3, 0};
        int[] last = {3, 5, 109};
        for (int what = 0; what <= 2; what++) {
            CHECK.due("the first day", x.psalm(1, 1, what), first[what]);
            CHECK.due("the last day", x.psalm(999, 365, what), last[what]);
            for (int y : NO_YEARS) {
                CHECK.due("year " + y, x.psalm(y, 1, what), Check.BAD);
            }
            for (int d : NO_DAYS) {
                CHECK.due("day " + d, x.psalm(1, d, what), Check.BAD);
            }
            CHECK.due("day 0", x.psalm(1, 0, what), Check.BAD);
        }
        for (int what : new int[] {-1, 3, Integer.MIN_VALUE, Integer.MAX_VALUE}) {
            CHECK.due("what " + what, x.psalm(1, 1, what), Check.BAD);
        }
        x.law(0, 1);
        reads(x, 4, 366, 6, 8, 109);
        CHECK.due("day 367 of year 4", x.psalm(4, 367, 0), Check.BAD);
    }

    /** "STATE: no BOOK (ahead of BAD)" of psalm. */
    private static void psalmStateAheadOfBad() {
        FeastRota x = new FeastRota();
        CHECK.due("good", x.psalm(1, 1, 0), Check.STATE);
        CHECK.due("year", x.psalm(0, 1, 0), Check.STATE);
        CHECK.due("day", x.psalm(1, 0, 0), Check.STATE);
        CHECK.due("what", x.psalm(1, 1, 3), Check.STATE);
    }

    /** "BAD (k less than 1, too)" */
    private static void readNumbers() {
        FeastRota x = psalter(10, 3);
        for (int y : NO_YEARS) {
            CHECK.due("year " + y, x.read(y, 1, 1), Check.BAD);
        }
        for (int psalm : new int[] {0, 11, -1, Integer.MIN_VALUE, Integer.MAX_VALUE}) {
            CHECK.due("psalm " + psalm, x.read(1, psalm, 1), Check.BAD);
        }
        for (int k : new int[] {0, -1, Integer.MIN_VALUE}) {
            CHECK.due("time " + k, x.read(1, 1, k), Check.BAD);
        }
        CHECK.due("the first psalm", x.read(1, 1, 1), 1);
        CHECK.due("the last psalm", x.read(1, 10, 1), 4);
        CHECK.due("the last year", x.read(999, 10, 1), 4);
        x.law(3, 150);
        CHECK.due("psalm 150", x.read(1, 150, 1), 50);
        CHECK.due("psalm 151", x.read(1, 151, 1), Check.BAD);
    }

    /** "STATE: no BOOK (ahead of BAD)" of read. */
    private static void readStateAheadOfBad() {
        FeastRota x = new FeastRota();
        CHECK.due("good", x.read(1, 1, 1), Check.STATE);
        CHECK.due("year", x.read(1000, 1, 1), Check.STATE);
        CHECK.due("psalm", x.read(1, 0, 1), Check.STATE);
        CHECK.due("time", x.read(1, 1, 0), Check.STATE);
    }

    /** "for the time k (1 on); NONE: not so often" */
    private static void readTimes() {
        FeastRota x = psalter(10, 9);
        CHECK.due("1", x.read(1, 10, 1), 2);
        CHECK.due("2", x.read(1, 1, 2), 2);
        // 3285 are read: the last one is 5, for the time 329
        CHECK.due("the last one", x.read(1, 5, 329), 365);
        CHECK.due("the next one", x.read(1, 6, 329), Check.NONE);
        CHECK.due("once more", x.read(1, 5, 330), Check.NONE);
        CHECK.due("the first one of the last day", x.read(1, 7, 328), 365);
        CHECK.due("the last one of the day ahead", x.read(1, 6, 328), 364);
        x.law(0, 1);
        CHECK.due("in a leap year", x.read(4, 6, 329), 366);
    }

    /** "NONE: not so often", for numbers whose products go round. */
    private static void readFarMoreOften() {
        FeastRota x = psalter(10, 9);
        // 10 times 429496730 is 4 more than 2 to the 32
        for (int k : new int[] {Integer.MAX_VALUE, 429496731, 429496730, 214748365, 214748366, 858993460}) {
            for (int psalm = 1; psalm <= 10; psalm++) {
                CHECK.due("time " + k, x.read(1, psalm, k), Check.NONE);
            }
        }
    }

    /** "The DAY on which a psalm is read", none of RANK 4 or 5. */
    private static void readNotOnHighDays() {
        for (int rank = 1; rank <= 5; rank++) {
            FeastRota x = Check.of("k0,0,1;d1," + rank + ",1;d4," + rank + ",1;d365," + rank + ",1;p10,1;c2,0;");
            int late = rank > 3 ? 1 : 0;
            CHECK.due("1", x.read(1, 1, 1), 1 + late);
            CHECK.due("3", x.read(1, 3, 1), 3 + 2 * late);
            CHECK.due("4", x.read(1, 4, 1), 4 + 2 * late);
            CHECK.due("10", x.read(1, 10, 1), 10 + 2 * late);
            CHECK.due("the last one", x.read(1, 5 - 3 * late, 37), 365 - late);
            CHECK.due("no more", x.read(1, 6 - 3 * late, 37), Check.NONE);
        }
    }

    /** "The CHOIR that has SERVICE i (0 on) of a DAY .. BAD" */
    private static void singsNumbers() {
        FeastRota x = choirs(2, 0);
        for (int y : NO_YEARS) {
            CHECK.due("year " + y, x.sings(y, 1, 0), Check.BAD);
        }
        for (int d : NO_DAYS) {
            CHECK.due("day " + d, x.sings(1, d, 0), Check.BAD);
        }
        CHECK.due("day 0", x.sings(1, 0, 0), Check.BAD);
        CHECK.due("service -1", x.sings(1, 1, -1), Check.BAD);
        CHECK.due("service least", x.sings(1, 1, Integer.MIN_VALUE), Check.BAD);
        CHECK.due("service 0", x.sings(1, 1, 0), 0);
        CHECK.due("the last day", x.sings(1, 365, 0), 0);
        CHECK.due("the last year", x.sings(999, 1, 0), 0);
        x.law(0, 1);
        CHECK.due("day 366 of year 4", x.sings(4, 366, 0), 1);
        CHECK.due("day 367 of year 4", x.sings(4, 367, 0), Check.BAD);
    }

    /** "STATE: no BOOK (ahead of BAD)" of sings. */
    private static void singsStateAheadOfBad() {
        FeastRota x = new FeastRota();
        CHECK.due("good", x.sings(1, 1, 0), Check.STATE);
        CHECK.due("year", x.sings(0, 1, 0), Check.STATE);
        CHECK.due("day", x.sings(1, 0, 0), Check.STATE);
        CHECK.due("service", x.sings(1, 1, -1), Check.STATE);
    }

    /** "NONE: not so many" */
    private static void singsNotSoMany() {
        FeastRota x = Check.of("k0,0,1;d3,5,1;p10,1;c5,0;");
        CHECK.due("1 of 1", x.sings(1, 1, 0), 0);
        CHECK.due("2 of 1", x.sings(1, 1, 1), Check.NONE);
        CHECK.due("2 of 2", x.sings(1, 7, 1) >= 0 ? 1 : 0, 1);
        CHECK.due("3 of 2", x.sings(1, 7, 2), Check.NONE);
        CHECK.due("4 of 4", x.sings(1, 3, 3), 0);
        CHECK.due("5 of 4", x.sings(1, 3, 4), Check.NONE);
        CHECK.due("far more", x.sings(1, 3, Integer.MAX_VALUE), Check.NONE);
    }

    /** "SERVICES that a CHOIR has up to a DAY (with it; 0: none) of a YEAR. BAD." */
    private static void dutiesNumbers() {
        FeastRota x = choirs(2, 0);
        for (int y : NO_YEARS) {
            CHECK.due("year " + y, x.duties(0, y, 1), Check.BAD);
            CHECK.due("day 0 of year " + y, x.duties(0, y, 0), Check.BAD);
        }
        for (int d : NO_DAYS) {
            CHECK.due("day " + d, x.duties(0, 1, d), Check.BAD);
        }
        for (int c : new int[] {-1, 2, 5, Integer.MIN_VALUE, Integer.MAX_VALUE}) {
            CHECK.due("choir " + c, x.duties(c, 1, 1), Check.BAD);
            CHECK.due("choir " + c, x.duties(c, 1, 0), Check.BAD);
        }
        x.law(0, 1);
        CHECK.due("day 366 of year 4", x.duties(1, 4, 366), 209);
        CHECK.due("day 367 of year 4", x.duties(1, 4, 367), Check.BAD);
        FeastRota five = choirs(5, 0);
        CHECK.due("choir 4", five.duties(4, 1, 5), 1);
        CHECK.due("choir 5", five.duties(5, 1, 5), Check.BAD);
    }

    /** "BAD" of duties: without a BOOK there is no CHOIR. */
    private static void dutiesWithoutABook() {
        CHECK.due("day 1", new FeastRota().duties(0, 1, 1), Check.BAD);
        CHECK.due("day 0", new FeastRota().duties(0, 1, 0), Check.BAD);
    }

    /** "up to a DAY (with it; 0: none)" */
    private static void dutiesUpToADay() {
        FeastRota x = choirs(2, 0);
        int[] zero = {0, 1, 1, 2, 2, 3, 3, 4};
        int[] one = {0, 0, 1, 1, 2, 2, 3, 4};
        for (int d = 0; d <= 7; d++) {
            CHECK.due("choir 0 up to " + d, x.duties(0, 1, d), zero[d]);
            CHECK.due("choir 1 up to " + d, x.duties(1, 1, d), one[d]);
        }
        CHECK.due("choir 0 all year", x.duties(0, 1, 365), 209);
        CHECK.due("choir 1 all year", x.duties(1, 1, 365), 208);
        CHECK.due("none in the last year", x.duties(0, 999, 0), 0);
    }

    /** "In a YEAR: .. BAD" of fair. */
    private static void fairNumbers() {
        FeastRota x = choirs(2, 0);
        for (int y : NO_YEARS) {
            CHECK.due("year " + y, x.fair(y), Check.BAD);
        }
        CHECK.due("417 by 2", x.fair(1), 1);
        x.law(2, 0);
        CHECK.due("418 by 2", x.fair(1), 0);
        CHECK.due("the last year", x.fair(999), 1);
    }

    /** "STATE: no BOOK (ahead of BAD)" of fair. */
    private static void fairStateAheadOfBad() {
        CHECK.due("good", new FeastRota().fair(1), Check.STATE);
        CHECK.due("year 0", new FeastRota().fair(0), Check.STATE);
        CHECK.due("year 1000", new FeastRota().fair(1000), Check.STATE);
    }

    /** "of the CHOIR that has the most, less those of the one that has the fewest": also if that has none. */
    private static void fairOfThoseWhoAreAway() {
        FeastRota x = choirs(3, 0);
        x.away(0, 0, 366);
        CHECK.due("choirs 1 and 2 sing", x.fair(1), 209);
        x.away(1, 0, 366);
        CHECK.due("choir 2 sings", x.fair(1), 417);
        x.away(2, 0, 366);
        CHECK.due("nobody sings", x.fair(1), 0);
        x.away(0, 1, 0);
        CHECK.due("choir 0 sings", x.fair(1), 417);
        x.away(0, 2, 366);
        CHECK.due("choir 0 sings once", x.fair(1), 1);
    }

    /** "An object is used for at most 512 calls": the last of them is answered as all. */
    private static void call512() {
        FeastRota x = new FeastRota();
        String text = "k0,0,1;p10,1;c2,0;";
        Check.tell(x, text);
        for (int call = text.length() + 2; call <= 511; call++) {
            CHECK.due("call " + call, x.law(1, call % 30), call == text.length() + 2 ? 0 : (call - 1) % 30);
        }
        CHECK.due("call 512", x.undo(), 15);
    }
}
