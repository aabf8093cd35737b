/**
 * Boundary cases of one year: Terms 2 up to the COLOUR of a DAY. Each test stands behind the sentence of the document that
 * it holds to. With FIRST 0 and no LEAP YEARS the Sundays of YEAR 1 are DAYS 1, 8 .. 358, 365.
 */
public final class EdgeYearTest {
    private static final Check CHECK = new Check();
    private static final String TAIL = "p10,1;c2,0;";
    private static final String BARE = "k0,0,0;" + TAIL;

    public static void main(String[] args) {
        yearsFrom1To999();
        daysOfAYear();
        daysOfALeapYear();
        noLeapYears();
        leapYearsBy4();
        leapYearsBy400();
        dateFrom60On();
        weekdaysGoRound();
        weekdaysGoOnFromYearToYear();
        moonLeavesBy19();
        moonLeavesBy30();
        moonOfALeapYear();
        springIsBehindTheMoon();
        earliestAndLatestSpring();
        aheadOfSpring();
        noDayAheadOfTheYear();
        behindSpring();
        sundayOnTheDateItself();
        noSundayLeft();
        nextSundayInALeapYear();
        datedInALeapYear();
        orderByRank();
        orderByKind();
        orderByNumber();
        noSundayForRanks1And2();
        ownDayIsFree();
        rank5And4AreMoved();
        movedOntoASunday();
        lostAtTheEndOfTheYear();
        lastDayOfALeapYear();
        rank3WithinSevenDays();
        rank3AtTheEndOfTheYear();
        rank2IsRemembered();
        rank1IsLeftOut();
        noOwnDay();
        rankOfADay();
        colourWithoutAnything();
        seasonFromDayToDay();
        seasonThatIsTurnedRound();
        seasonOfFeastsThatAreNotHeld();
        seasonFromWhereItIsMoved();
        firstSeasonOfSeveral();
        CHECK.end();
    }

    private static void state(FeastRota x, int y, int feast, int how, int own, int on) {
        String name = "feast " + feast + " in year " + y;
        CHECK.due(name + " is", x.held(feast, y, 0), how);
        CHECK.due(name + " has its own day", x.held(feast, y, 1), own);
        CHECK.due(name + " is on", x.held(feast, y, 2), on);
    }

    /** "YEARS 1 to 999" */
    private static void yearsFrom1To999() {
        FeastRota x = Check.of(BARE);
        CHECK.due("the first", x.year(1, 1), 0);
        CHECK.due("the last", x.year(999, 1), 998 % 7);
        for (int y : new int[] {0, 1000, -1, Integer.MIN_VALUE, Integer.MAX_VALUE}) {
            CHECK.due("year " + y, x.year(y, 1), Check.BAD);
        }
    }

    /** "DAYS 1 to as many as the YEAR has: .. else 365" */
    private static void daysOfAYear() {
        FeastRota x = Check.of(BARE);
        CHECK.due("days", x.year(4, 0), 365);
        CHECK.due("the first", x.day(1, 1, 0), 0);
        CHECK.due("the last", x.day(1, 365, 0), 0);
        for (int d : new int[] {0, 366, -1, Integer.MIN_VALUE, Integer.MAX_VALUE}) {
            CHECK.due("day " + d, x.day(1, d, 0), Check.BAD);
        }
    }

    /** "366 in a LEAP YEAR" */
    private static void daysOfALeapYear() {
        FeastRota x = Check.of("k1,0,0;" + TAIL);
        CHECK.due("days", x.year(4, 0), 366);
        // DAY 1 of YEAR 4 is a Wednesday
        CHECK.due("the last", x.day(4, 366, 0), 4);
        for (int d : new int[] {0, 367, -1}) {
            CHECK.due("day " + d, x.day(4, d, 0), Check.BAD);
        }
        CHECK.due("no leap year", x.day(5, 366, 0), Check.BAD);
    }

    private static void leapYears(int leap, int[] leaps, int[] others) {
        FeastRota x = Check.of("k" + leap + ",0,0;" + TAIL);
        for (int y : leaps) {
            CHECK.due("leap year " + y, x.year(y, 0), 366);
        }
        for (int y : others) {
            CHECK.due("no leap year " + y, x.year(y, 0), 365);
        }
    }

    /** "LEAP YEARS by LEAP: 0 none" */
    private static void noLeapYears() {
        leapYears(0, new int[] {}, new int[] {1, 4, 100, 400, 800, 996, 999});
    }

    /** "1 those that 4 divides" */
    private static void leapYearsBy4() {
        leapYears(1, new int[] {4, 8, 96, 100, 200, 300, 400, 900, 996}, new int[] {1, 2, 3, 5, 98, 99, 101, 998, 999});
    }

    /** "2 those that 4 divides, and 100 does not, or 400 does" */
    private static void leapYearsBy400() {
        leapYears(2, new int[] {4, 8, 96, 104, 396, 400, 404, 800, 996},
            new int[] {1, 2, 3, 5, 50, 98, 100, 200, 300, 500, 600, 700, 900, 999});
    }

    /** "DATE n (1 to 365) is DAY n, but in a LEAP YEAR 1 more from 60 on" */
    private static void dateFrom60On() {
        FeastRota x = Check.of("k1,0,0;d1,5,1;d59,5,1;d60,5,1;d365,5,1;" + TAIL);
        int[] common = {1, 59, 60, 365};
        int[] leap = {1, 59, 61, 366};
        for (int f = 0; f < 4; f++) {
            CHECK.due("own day", x.held(f, 3, 1), common[f]);
            CHECK.due("own day in a leap year", x.held(f, 4, 1), leap[f]);
        }
        CHECK.due("no feast is held on day 60", x.day(4, 60, 1), Check.NONE);
    }

    /** "WEEKDAY of a DAY (0 is Sunday): FIRST is that of DAY 1 of YEAR 1; they go on day by day" */
    private static void weekdaysGoRound() {
        for (int first = 0; first <= 6; first++) {
            FeastRota x = Check.of("k0,0," + first + ";" + TAIL);
            CHECK.due("FIRST", x.year(1, 1), first);
            for (int d = 1; d <= 15; d++) {
                CHECK.due("day " + d, x.day(1, d, 0), (first + d - 1) % 7);
            }
        }
        FeastRota x = Check.of("k0,0,6;" + TAIL);
        CHECK.due("Saturday", x.day(1, 1, 0), 6);
        CHECK.due("Sunday", x.day(1, 2, 0), 0);
    }

    /** "they go on day by day", over the end of each YEAR. */
    private static void weekdaysGoOnFromYearToYear() {
        for (int leap = 0; leap <= 2; leap++) {
            FeastRota x = Check.of("k" + leap + ",0,6;" + TAIL);
            for (int y : new int[] {1, 2, 3, 4, 5, 99, 100, 101, 199, 200, 399, 400, 401, 499, 500, 800, 900, 996, 998}) {
                int last = x.day(y, x.year(y, 0), 0);
                CHECK.due("day 1 behind year " + y, x.year(y + 1, 1), (last + 1) % 7);
            }
        }
    }

    /** "what y leaves by 19" */
    private static void moonLeavesBy19() {
        FeastRota x = Check.of(BARE);
        CHECK.due("18", x.year(18, 2), 80 + 12);
        CHECK.due("19", x.year(19, 2), 80);
        CHECK.due("20", x.year(20, 2), 80 + 19);
        CHECK.due("1", x.year(1, 2), 80 + 19);
        CHECK.due("950", x.year(950, 2), 80);
    }

    /** "together, leave by 30" */
    private static void moonLeavesBy30() {
        FeastRota x = Check.of("k0,10,0;" + TAIL);
        CHECK.due("29", x.year(1, 2), 109);
        x.law(1, 11);
        CHECK.due("30", x.year(1, 2), 80);
        x.law(1, 12);
        CHECK.due("31", x.year(1, 2), 81);
        x.law(1, 29);
        CHECK.due("29 alone", x.year(19, 2), 109);
        CHECK.due("342 and 29", x.year(18, 2), 80 + 11);
    }

    /** "FULL MOON of a YEAR y: DATE 80 and ..", a DATE, not a DAY. */
    private static void moonOfALeapYear() {
        FeastRota x = Check.of("k1,0,0;" + TAIL);
        CHECK.due("80", x.year(76, 2), 81);
        x.law(1, 29);
        CHECK.due("109", x.year(76, 2), 110);
    }

    /** "SPRING: the first Sunday behind that DAY" */
    private static void springIsBehindTheMoon() {
        // FULL MOON of YEAR 1 is DAY 99, of the same WEEKDAY as DAY 1
        int[] springs = {106, 105, 104, 103, 102, 101, 100};
        for (int first = 0; first <= 6; first++) {
            FeastRota x = Check.of("k0,0," + first + ";" + TAIL);
            CHECK.due("moon", x.day(1, 99, 0), first);
            CHECK.due("spring", x.year(1, 3), springs[first]);
        }
    }

    /** The same at its ends: DATE 80 a Saturday, DATE 109 a Sunday. */
    private static void earliestAndLatestSpring() {
        FeastRota x = Check.of("k0,11,4;" + TAIL);
        CHECK.due("a Saturday", x.day(1, 80, 0), 6);
        CHECK.due("earliest", x.year(1, 3), 81);
        x.law(1, 10);
        CHECK.due("a Sunday", x.day(1, 109, 0), 0);
        CHECK.due("latest", x.year(1, 3), 116);
    }

    /** "0 b MOVING: its OWN DAY is N ahead of SPRING" */
    private static void aheadOfSpring() {
        FeastRota x = Check.of("k0,0,0;b0,5,1;b1,5,1;b99,5,1;" + TAIL);
        state(x, 1, 0, 1, 106, 106);
        state(x, 1, 1, 1, 105, 105);
        state(x, 1, 2, 1, 7, 7);
    }

    /** "Where that is no DAY of the YEAR, it has none then", ahead of DAY 1. */
    private static void noDayAheadOfTheYear() {
        // SPRING is DAY 100
        FeastRota x = Check.of("k0,0,6;b99,5,1;b98,5,1;" + TAIL);
        state(x, 1, 0, 1, 1, 1);
        state(x, 1, 1, 1, 2, 2);
        // SPRING is DAY 99
        FeastRota y = Check.of("k0,29,0;b99,5,1;b98,5,1;" + TAIL);
        CHECK.due("spring", y.year(1, 3), 99);
        state(y, 1, 0, 0, Check.NONE, Check.NONE);
        state(y, 1, 1, 1, 1, 1);
        // the earliest SPRING
        FeastRota z = Check.of("k0,11,4;b99,5,1;b81,5,1;b80,5,1;" + TAIL);
        state(z, 1, 0, 0, Check.NONE, Check.NONE);
        state(z, 1, 1, 0, Check.NONE, Check.NONE);
        state(z, 1, 2, 1, 1, 1);
    }

    /** "1 f MOVING, too: N behind SPRING" */
    private static void behindSpring() {
        FeastRota x = Check.of("k0,0,0;f0,5,1;f1,5,1;f99,5,1;" + TAIL);
        state(x, 1, 0, 1, 106, 106);
        state(x, 1, 1, 1, 107, 107);
        state(x, 1, 2, 1, 205, 205);
    }

    /** "2 n NEXT: the first Sunday on DATE N or behind it" */
    private static void sundayOnTheDateItself() {
        FeastRota x = Check.of("k0,0,0;n1,5,1;n2,5,1;n8,5,1;n9,5,1;" + TAIL);
        int[] own = {1, 8, 8, 15};
        for (int f = 0; f < 4; f++) {
            CHECK.due("own day " + f, x.held(f, 1, 1), own[f]);
        }
    }

    /** "Where that is no DAY of the YEAR, it has none then", behind the last DAY. */
    private static void noSundayLeft() {
        FeastRota x = Check.of("k0,0,0;n358,5,1;n359,5,1;n364,5,1;n365,5,1;" + TAIL);
        int[] own = {358, 365, 365, 365};
        // the last Sunday of YEAR 2 is DAY 364
        int[] next = {364, 364, 364, Check.NONE};
        for (int f = 0; f < 4; f++) {
            CHECK.due("own day " + f, x.held(f, 1, 1), own[f]);
            CHECK.due("own day in year 2, " + f, x.held(f, 2, 1), next[f]);
        }
        state(x, 2, 3, 0, Check.NONE, Check.NONE);
        // the last Sunday of YEAR 7 is DAY 359
        CHECK.due("359", x.held(1, 7, 1), 359);
        CHECK.due("364", x.held(2, 7, 1), Check.NONE);
    }

    /** The same in a LEAP YEAR, with its DAYS 60 and 366. */
    private static void nextSundayInALeapYear() {
        // DAY 366 of YEAR 4 is a Sunday, and so is 359
        FeastRota x = Check.of("k1,0,3;n358,5,1;n359,5,1;n365,5,1;" + TAIL);
        int[] own = {359, 366, 366};
        for (int f = 0; f < 3; f++) {
            CHECK.due("own day " + f, x.held(f, 4, 1), own[f]);
        }
        // DAY 60 of YEAR 4 is a Sunday, but no DATE
        FeastRota y = Check.of("k1,0,1;n59,5,1;n60,5,1;n365,5,1;" + TAIL);
        CHECK.due("a Sunday", y.day(4, 60, 0), 0);
        CHECK.due("behind 59", y.held(0, 4, 1), 60);
        CHECK.due("behind 60", y.held(1, 4, 1), 67);
        CHECK.due("behind 365", y.held(2, 4, 1), Check.NONE);
    }

    /** "3 d DATED: DATE N": each DATE is a DAY of each YEAR. */
    private static void datedInALeapYear() {
        FeastRota x = Check.of("k1,0,0;d365,1,1;d1,1,1;" + TAIL);
        CHECK.due("365", x.held(0, 4, 1), 366);
        CHECK.due("365", x.held(0, 3, 1), 365);
        CHECK.due("1", x.held(1, 4, 1), 1);
    }

    /** "come one by one: of a greater RANK first" */
    private static void orderByRank() {
        FeastRota x = Check.of("k0,0,0;d10,1,1;d10,2,1;d10,3,1;d10,4,1;d10,5,1;" + TAIL);
        state(x, 1, 4, 1, 10, 10);
        state(x, 1, 3, 2, 10, 11);
        state(x, 1, 2, 2, 10, 12);
        state(x, 1, 1, 3, 10, 10);
        state(x, 1, 0, 4, 10, Check.NONE);
        // a greater RANK goes ahead of a lesser KIND
        FeastRota y = Check.of("k0,0,0;b0,4,1;d106,5,1;" + TAIL);
        state(y, 1, 1, 1, 106, 106);
        state(y, 1, 0, 2, 106, 107);
    }

    /** "of one RANK those of a lesser KIND" */
    private static void orderByKind() {
        FeastRota x = Check.of("k0,0,0;d106,4,1;n106,4,1;f0,4,1;b0,4,1;" + TAIL);
        state(x, 1, 3, 1, 106, 106);
        state(x, 1, 2, 2, 106, 107);
        state(x, 1, 1, 2, 106, 108);
        state(x, 1, 0, 2, 106, 109);
    }

    /** "of these of the lesser number" */
    private static void orderByNumber() {
        FeastRota x = Check.of("k0,0,0;" + "d10,5,1;".repeat(12) + TAIL);
        state(x, 1, 0, 1, 10, 10);
        for (int f = 1; f < 12; f++) {
            state(x, 1, f, 2, 10, 10 + f);
        }
    }

    /** "a FEAST of RANK 1 or 2 does not come onto a Sunday" */
    private static void noSundayForRanks1And2() {
        int[] how = {0, 4, 3, 1, 1, 1};
        for (int rank = 1; rank <= 5; rank++) {
            FeastRota x = Check.of("k0,0,0;d8," + rank + ",1;d9," + rank + ",1;d7," + rank + ",1;" + TAIL);
            state(x, 1, 0, how[rank], 8, rank == 1 ? Check.NONE : 8);
            state(x, 1, 1, 1, 9, 9);
            state(x, 1, 2, 1, 7, 7);
            CHECK.due("on the Sunday", x.day(1, 8, 1), rank < 3 ? Check.NONE : 0);
        }
    }

    /** "If its OWN DAY is FREE, and it comes onto it, it is HELD there (1)", at both ends of the YEAR. */
    private static void ownDayIsFree() {
        for (int rank = 1; rank <= 5; rank++) {
            // DAY 1 is a Monday
            FeastRota x = Check.of("k0,0,1;d1," + rank + ",1;d365," + rank + ",1;" + TAIL);
            state(x, 1, 0, 1, 1, 1);
            state(x, 1, 1, 1, 365, 365);
        }
    }

    /** "5, 4: MOVED (2): HELD on the first FREE DAY behind", however far. */
    private static void rank5And4AreMoved() {
        StringBuilder taken = new StringBuilder();
        for (int d = 10; d <= 19; d++) {
            taken.append('d').append(d).append(",5,1;");
        }
        for (int rank = 4; rank <= 5; rank++) {
            FeastRota x = Check.of("k0,0,0;" + taken + "d10," + rank + ",1;" + TAIL);
            state(x, 1, 10, 2, 10, 20);
            x.alter(9, 1, 20);
            state(x, 1, 10, 2, 10, 19);
        }
        // not on one ahead
        FeastRota y = Check.of("k0,0,0;d10,5,1;d10,4,1;" + TAIL);
        state(y, 1, 1, 2, 10, 11);
    }

    /** "HELD on the first FREE DAY behind": a Sunday is one. */
    private static void movedOntoASunday() {
        for (int rank = 3; rank <= 5; rank++) {
            FeastRota x = Check.of("k0,0,0;d7,5,1;d7," + rank + ",1;" + TAIL);
            state(x, 1, 1, 2, 7, 8);
        }
    }

    /** "if the YEAR has none, LOST (5)" */
    private static void lostAtTheEndOfTheYear() {
        for (int rank = 4; rank <= 5; rank++) {
            FeastRota x = Check.of("k0,0,0;d365,5,1;d365," + rank + ",1;" + TAIL);
            state(x, 1, 1, 5, 365, Check.NONE);
            x.alter(1, 1, 364);
            x.alter(0, 1, 364);
            state(x, 1, 1, 2, 364, 365);
            x.add(3, 365, 5, 1);
            // of one RANK 5 the one of the lesser number is moved ahead of it
            state(x, 1, 1, rank == 5 ? 2 : 5, 364, rank == 5 ? 365 : Check.NONE);
            state(x, 1, 2, rank == 5 ? 5 : 1, 365, rank == 5 ? Check.NONE : 365);
        }
    }

    /** The same in a LEAP YEAR, whose last DAY is 366. */
    private static void lastDayOfALeapYear() {
        FeastRota x = Check.of("k1,0,0;d364,5,1;d364,4,1;d365,4,1;" + TAIL);
        state(x, 4, 1, 2, 365, 366);
        state(x, 4, 2, 5, 366, Check.NONE);
        state(x, 3, 1, 2, 364, 365);
        state(x, 3, 2, 5, 365, Check.NONE);
        FeastRota y = Check.of("k1,0,0;d364,5,1;d364,3,1;" + TAIL);
        state(y, 4, 1, 2, 365, 366);
    }

    /** "3: MOVED, if one of the 7 DAYS behind is FREE (the first one of these ..), else REMEMBERED (3) on its OWN DAY" */
    private static void rank3WithinSevenDays() {
        StringBuilder taken = new StringBuilder();
        for (int d = 10; d <= 17; d++) {
            taken.append('d').append(d).append(",5,1;");
        }
        FeastRota x = Check.of("k0,0,0;" + taken + "d10,3,1;" + TAIL);
        state(x, 1, 8, 3, 10, 10);
        x.alter(7, 1, 30);
        state(x, 1, 8, 2, 10, 17);
        x.alter(1, 1, 31);
        state(x, 1, 8, 2, 10, 11);
    }

    /** "(the first one of these, in the YEAR)" */
    private static void rank3AtTheEndOfTheYear() {
        FeastRota x = Check.of("k0,0,0;d364,5,1;d364,3,1;" + TAIL);
        state(x, 1, 1, 2, 364, 365);
        x.add(3, 365, 5, 1);
        state(x, 1, 1, 3, 364, 364);
        x.alter(1, 1, 365);
        state(x, 1, 1, 3, 365, 365);
    }

    /** "2: REMEMBERED on its OWN DAY" */
    private static void rank2IsRemembered() {
        FeastRota x = Check.of("k0,0,0;d10,5,1;d10,2,1;d15,2,1;d365,2,1;d20,2,1;d20,2,1;" + TAIL);
        state(x, 1, 1, 3, 10, 10);
        state(x, 1, 2, 3, 15, 15);
        state(x, 1, 3, 3, 365, 365);
        state(x, 1, 4, 1, 20, 20);
        state(x, 1, 5, 3, 20, 20);
        CHECK.due("remembered", x.year(1, 6), 4);
    }

    /** "1: LEFT OUT (4)" */
    private static void rank1IsLeftOut() {
        FeastRota x = Check.of("k0,0,0;d10,5,1;d10,1,1;d15,1,1;d20,1,1;d20,1,1;" + TAIL);
        state(x, 1, 1, 4, 10, Check.NONE);
        state(x, 1, 2, 4, 15, Check.NONE);
        state(x, 1, 3, 1, 20, 20);
        state(x, 1, 4, 4, 20, Check.NONE);
        CHECK.due("remembered", x.year(1, 6), 0);
    }

    /** "(0: it has no OWN DAY.)", of each RANK. */
    private static void noOwnDay() {
        for (int rank = 1; rank <= 5; rank++) {
            FeastRota x = Check.of("k0,11,4;b81,5,1;b99," + rank + ",1;n365," + rank + ",1;" + TAIL);
            state(x, 1, 1, 0, Check.NONE, Check.NONE);
            state(x, 1, 2, 0, Check.NONE, Check.NONE);
            CHECK.due("no feast is held", x.year(1, 5), 0);
            CHECK.due("none is remembered", x.year(1, 6), 0);
        }
    }

    /** "RANK of a DAY: that of the FEAST HELD there; else 3 of a Sunday, else 0" */
    private static void rankOfADay() {
        FeastRota x = Check.of("k0,0,0;d10,1,1;d11,2,1;d12,3,1;d13,4,1;d14,5,1;d15,5,1;d22,2,1;d10,2,1;" + TAIL);
        // FEAST 7 takes DAY 10 from FEAST 0; FEAST 6 is only REMEMBERED on Sunday 22
        int[][] want = {{7, 0}, {8, 3}, {9, 0}, {10, 2}, {11, 2}, {12, 3}, {13, 4}, {14, 5}, {15, 5}, {22, 3}, {365, 3}};
        for (int[] row : want) {
            CHECK.due("rank of " + row[0], x.day(1, row[0], 2), row[1]);
        }
        CHECK.due("rank 1", Check.of("k0,0,0;d10,1,1;" + TAIL).day(1, 10, 2), 1);
    }

    /** "COLOUR of a DAY: .. else 0" */
    private static void colourWithoutAnything() {
        FeastRota x = Check.of(BARE);
        CHECK.due("a day", x.day(1, 2, 3), 0);
        CHECK.due("a Sunday", x.day(1, 1, 3), 0);
    }

    private static void colours(FeastRota x, int y, int[][] want) {
        for (int[] row : want) {
            CHECK.due("colour of " + row[0], x.day(y, row[0], 3), row[1]);
        }
    }

    /** "from the DAY on which FROM is HELD to the one ahead of that on which TO is" */
    private static void seasonFromDayToDay() {
        FeastRota x = Check.of("k0,0,0;d10,5,1;d14,5,2;z0,1,6;" + TAIL);
        colours(x, 1, new int[][] {{9, 0}, {10, 1}, {11, 6}, {13, 6}, {14, 2}, {15, 0}});
        FeastRota whole = Check.of("k0,0,0;d1,5,1;d365,5,2;z0,1,6;" + TAIL);
        colours(whole, 1, new int[][] {{1, 1}, {2, 6}, {364, 6}, {365, 2}});
        FeastRota none = Check.of("k0,0,0;d10,5,1;d11,5,2;z0,1,6;" + TAIL);
        colours(none, 1, new int[][] {{9, 0}, {10, 1}, {11, 2}, {12, 0}});
    }

    /** "(if both are HELD, FROM ahead of TO)": it does not go round the end of the YEAR. */
    private static void seasonThatIsTurnedRound() {
        FeastRota x = Check.of("k0,0,0;d300,5,1;d14,5,2;z0,1,6;" + TAIL);
        colours(x, 1, new int[][] {{1, 0}, {13, 0}, {14, 2}, {15, 0}, {299, 0}, {300, 1}, {301, 0}, {365, 0}});
    }

    /** "(if both are HELD": not REMEMBERED, LEFT OUT, LOST, or without an OWN DAY. */
    private static void seasonOfFeastsThatAreNotHeld() {
        // FEAST 0 is HELD on 5, FEAST 1 on 20, FEAST 2 lies between them or behind them and is not HELD
        String start = "k0,11,4;d5,5,1;d20,5,2;";
        String[] others = {"d10,2,1;d10,5,1;", "d10,1,1;d10,5,1;", "d365,4,1;d365,5,1;", "b99,5,1;d10,5,1;"};
        int[] how = {3, 4, 5, 0};
        for (int i = 0; i < 4; i++) {
            FeastRota x = Check.of(start + others[i] + "z2,1,6;z0,2,5;" + TAIL);
            CHECK.due("it is", x.held(2, 1, 0), how[i]);
            colours(x, 1, new int[][] {{4, 0}, {6, 0}, {11, 0}, {19, 0}, {21, 0}, {364, 0}});
        }
    }

    /** "the DAY on which FROM is HELD", not its OWN DAY. */
    private static void seasonFromWhereItIsMoved() {
        FeastRota x = Check.of("k0,0,0;d10,5,1;d11,5,1;d10,4,2;d14,5,3;d14,4,4;z2,4,6;" + TAIL);
        state(x, 1, 2, 2, 10, 12);
        state(x, 1, 4, 2, 14, 15);
        colours(x, 1, new int[][] {{9, 0}, {10, 1}, {11, 1}, {12, 2}, {13, 6}, {14, 3}, {15, 4}, {16, 0}});
    }

    /** "that of the first SEASON it lies in" */
    private static void firstSeasonOfSeveral() {
        FeastRota x = Check.of("k0,0,0;d10,5,1;d20,5,1;d30,5,1;d40,5,1;z3,0,2;z1,2,3;z0,3,4;z0,2,5;" + TAIL);
        colours(x, 1, new int[][] {{9, 0}, {11, 4}, {19, 4}, {21, 3}, {29, 3}, {31, 4}, {39, 4}, {41, 0}});
    }
}
