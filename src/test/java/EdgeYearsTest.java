/**
 * Boundary cases of promises 19 to 24: many years, and what would be. Each test stands behind the sentence of the document
 * that it holds to. Without LEAP YEARS the SPRINGS come again after 133 YEARS: with FIRST 0 and MOON 0 the earliest one,
 * DAY 81, is that of YEARS 19, 152, 285 .. 950, the latest one, DAY 116, that of YEARS 68, 201 .. 866, 999.
 */
public final class EdgeYearsTest {
    private static final Check CHECK = new Check();
    private static final String TAIL = "p10,1;c2,0;";
    private static final int[] NO_YEARS = {0, 1000, -1, Integer.MIN_VALUE, Integer.MAX_VALUE};

    public static void main(String[] args) {
        meetNumbers();
        meetOneAndTheSame();
        meetWithoutABook();
        meetInTheFirstYear();
        meetInTheLastOf99Years();
        meetInYear999();
        meetNotBehindYear999();
        meetWithoutOwnDays();
        meetOnOwnDaysAlone();
        springsNumbers();
        springsStateAheadOfBad();
        springsOfOneYear();
        springsOf99Years();
        springsToYear999();
        springsAsDates();
        leapYearsOfSprings();
        oftenNumbers();
        oftenWithoutABook();
        oftenOfOneYear();
        oftenOf30Years();
        oftenToYear999();
        oftenOfEachSort();
        enoughNumbers();
        enoughStateAheadOfBad();
        enoughByOne();
        enoughByNine();
        enoughExactly();
        enoughWithHighDays();
        bestNumbers();
        bestStateAheadOfBad();
        bestOfSeveral();
        bestOfEachRule();
        barsNumbers();
        barsWithoutABook();
        barsOfOneThatIsHeld();
        barsWithoutAnOwnDay();
        barsOfASunday();
        barsByItself();
        barsOfAChain();
        barsBits();
        barsOfOneThatIsLost();
        barsOnTheFirstDay();
        CHECK.end();
    }

    /** SPRING on DAY 81 or 116: FEASTS 0 and 2 meet, or 1 and 2. */
    private static FeastRota springDays(int first) {
        return Check.of("k0,0," + first + ";d81,1,1;d116,1,1;f0,5,1;" + TAIL);
    }

    /** "two FEASTS", "from y on" "BAD" */
    private static void meetNumbers() {
        FeastRota x = springDays(0);
        for (int y : NO_YEARS) {
            CHECK.due("year " + y, x.meet(0, 2, y), Check.BAD);
        }
        for (int f : new int[] {-1, 3, 12, Integer.MIN_VALUE, Integer.MAX_VALUE}) {
            CHECK.due("feast a " + f, x.meet(f, 0, 1), Check.BAD);
            CHECK.due("feast b " + f, x.meet(0, f, 1), Check.BAD);
        }
        CHECK.due("the first and the last feast", x.meet(0, 2, 1), 19);
        CHECK.due("the last and the first feast", x.meet(2, 0, 1), 19);
    }

    /** "BAD (one and the same FEAST, too)" */
    private static void meetOneAndTheSame() {
        FeastRota x = springDays(0);
        for (int f = 0; f < 3; f++) {
            CHECK.due("feast " + f, x.meet(f, f, 1), Check.BAD);
        }
    }

    /** "BAD" of meet: without a BOOK there is no FEAST. */
    private static void meetWithoutABook() {
        CHECK.due("no book", new FeastRota().meet(0, 1, 1), Check.BAD);
        CHECK.due("no feast", Check.of("k0,0,0;" + TAIL).meet(0, 1, 1), Check.BAD);
        CHECK.due("one feast", Check.of("k0,0,0;d1,1,1;" + TAIL).meet(0, 1, 1), Check.BAD);
    }

    /** "The first YEAR from y on" */
    private static void meetInTheFirstYear() {
        FeastRota x = springDays(0);
        CHECK.due("from 18 on", x.meet(0, 2, 18), 19);
        CHECK.due("from 19 on", x.meet(0, 2, 19), 19);
        CHECK.due("from 20 on", x.meet(0, 2, 20), Check.NONE);
        FeastRota y = Check.of("k0,0,0;d5,1,1;d5,1,1;" + TAIL);
        CHECK.due("in each year", y.meet(0, 1, 1), 1);
        CHECK.due("in each year", y.meet(0, 1, 999), 999);
    }

    /** "(99 YEARS are looked at" */
    private static void meetInTheLastOf99Years() {
        FeastRota x = springDays(0);
        CHECK.due("the 99th", x.meet(0, 2, 152 - 98), 152);
        CHECK.due("the 100th", x.meet(0, 2, 152 - 99), Check.NONE);
    }

    /** "to 999 at most)" */
    private static void meetInYear999() {
        FeastRota x = springDays(0);
        CHECK.due("year 999 is the 99th", x.meet(1, 2, 901), 999);
        CHECK.due("year 999 is the 100th", x.meet(1, 2, 900), Check.NONE);
        CHECK.due("from 998 on", x.meet(1, 2, 998), 999);
        CHECK.due("from 999 on", x.meet(1, 2, 999), 999);
    }

    /** "to 999 at most)": what would be later is not looked at, nor is it BAD. */
    private static void meetNotBehindYear999() {
        // SPRING would be DAY 81 in YEAR 1007
        FeastRota x = springDays(6);
        CHECK.due("133 years ahead", x.meet(0, 2, 860), 874);
        CHECK.due("from 920 on", x.meet(0, 2, 920), Check.NONE);
        CHECK.due("from 999 on", x.meet(0, 2, 999), Check.NONE);
    }

    /** "in which two FEASTS have the same OWN DAY": without one they do not meet. */
    private static void meetWithoutOwnDays() {
        // DAY 365 is a Sunday in YEARS 1, 8 .., else both have no OWN DAY
        FeastRota x = Check.of("k0,0,0;n365,1,1;n365,2,1;" + TAIL);
        CHECK.due("year 1", x.meet(0, 1, 1), 1);
        CHECK.due("from 2 on", x.meet(0, 1, 2), 8);
        // YEAR 995 is such a one, too
        CHECK.due("from 996 on", x.meet(0, 1, 996), Check.NONE);
    }

    /** "have the same OWN DAY", though they are HELD on others, or not at all. */
    private static void meetOnOwnDaysAlone() {
        FeastRota x = Check.of("k0,0,0;d8,1,1;d8,5,1;d8,4,1;d9,4,1;" + TAIL);
        CHECK.due("left out", x.meet(0, 1, 1), 1);
        CHECK.due("moved", x.meet(1, 2, 1), 1);
        CHECK.due("moved onto the other's day", x.meet(2, 3, 1), Check.NONE);
    }

    /** "Of n YEARS (1 to 99) from y on .. 0 the earliest, 1 the latest SPRING .., 2 how many .. BAD" */
    private static void springsNumbers() {
        FeastRota x = springDays(0);
        for (int what = 0; what <= 2; what++) {
            for (int y : NO_YEARS) {
                CHECK.due("year " + y, x.springs(y, 1, what), Check.BAD);
            }
            for (int n : new int[] {0, 100, -1, Integer.MIN_VALUE, Integer.MAX_VALUE}) {
                CHECK.due("years " + n, x.springs(1, n, what), Check.BAD);
            }
        }
        for (int what : new int[] {-1, 3, Integer.MIN_VALUE, Integer.MAX_VALUE}) {
            CHECK.due("what " + what, x.springs(1, 1, what), Check.BAD);
        }
    }

    /** "STATE: no BOOK (ahead of BAD)" of springs. */
    private static void springsStateAheadOfBad() {
        FeastRota x = new FeastRota();
        CHECK.due("good", x.springs(1, 1, 0), Check.STATE);
        CHECK.due("year", x.springs(0, 1, 0), Check.STATE);
        CHECK.due("years", x.springs(1, 100, 0), Check.STATE);
        CHECK.due("what", x.springs(1, 1, 3), Check.STATE);
    }

    /** "Of n YEARS (1 ..": of one. */
    private static void springsOfOneYear() {
        FeastRota x = springDays(0);
        int[][] want = {{1, 106}, {2, 91}, {19, 81}, {999, 116}};
        for (int[] row : want) {
            CHECK.due("earliest of " + row[0], x.springs(row[0], 1, 0), row[1]);
            CHECK.due("latest of " + row[0], x.springs(row[0], 1, 1), row[1]);
        }
        CHECK.due("earliest of 1 and 2", x.springs(1, 2, 0), 91);
        CHECK.due("latest of 1 and 2", x.springs(1, 2, 1), 106);
    }

    /** "(.. to 99)": the last of them is one of them, the next is not. */
    private static void springsOf99Years() {
        FeastRota x = springDays(0);
        CHECK.due("152 is the 99th", x.springs(54, 99, 0), 81);
        CHECK.due("152 is the 100th", x.springs(53, 99, 0) > 81 ? 1 : 0, 1);
        CHECK.due("19 is the first", x.springs(19, 99, 0), 81);
        CHECK.due("19 is past", x.springs(20, 99, 0) > 81 ? 1 : 0, 1);
        CHECK.due("999 is the 99th", x.springs(901, 99, 1), 116);
        CHECK.due("999 is the 100th", x.springs(900, 99, 1) < 116 ? 1 : 0, 1);
        CHECK.due("152 is the 3rd", x.springs(150, 3, 0), 81);
        CHECK.due("152 is the 4th", x.springs(149, 3, 0) > 81 ? 1 : 0, 1);
    }

    /** "(to 999 at most)" of springs: the YEARS end there, and that is not BAD. */
    private static void springsToYear999() {
        // SPRING would be DAY 81 in YEAR 1007
        FeastRota x = springDays(6);
        int earliest = x.springs(990, 10, 0);
        CHECK.due("not so early", earliest > 81 ? 1 : 0, 1);
        for (int n = 11; n <= 99; n++) {
            CHECK.due("earliest of " + n, x.springs(990, n, 0), earliest);
        }
        FeastRota y = springDays(0);
        CHECK.due("of 999 alone", y.springs(999, 99, 0), 116);
        CHECK.due("of 999 alone", y.springs(999, 99, 1), 116);
    }

    /** "as DATES of a YEAR that is no LEAP YEAR" */
    private static void springsAsDates() {
        // FULL MOON of YEAR 4 is DATE 96, DAY 97, a Monday
        FeastRota x = Check.of("k1,0,0;" + TAIL);
        CHECK.due("the day", x.year(4, 3), 103);
        CHECK.due("the earliest date", x.springs(4, 1, 0), 102);
        CHECK.due("the latest date", x.springs(4, 1, 1), 102);
        CHECK.due("no leap year", x.springs(3, 1, 0), x.year(3, 3));
        // DATE 80 of YEAR 76 is DAY 81, the earliest SPRING there is DAY 82
        FeastRota y = Check.of("k1,0,0;" + TAIL);
        for (int first = 0; first <= 6; first++) {
            y.law(2, first);
            CHECK.due("a date " + first, y.springs(76, 1, 0), y.year(76, 3) - 1);
        }
    }

    /** "2 how many of them are LEAP YEARS" */
    private static void leapYearsOfSprings() {
        FeastRota x = Check.of("k1,0,0;" + TAIL);
        int[][] want = {{1, 3, 0}, {1, 4, 1}, {4, 1, 1}, {5, 3, 0}, {4, 5, 2}, {1, 99, 24}, {4, 97, 25}, {996, 99, 1},
            {997, 99, 0}, {999, 1, 0}, {901, 99, 24}};
        for (int[] row : want) {
            CHECK.due("leap years of " + row[1] + " from " + row[0], x.springs(row[0], row[1], 2), row[2]);
        }
        x.law(0, 2);
        CHECK.due("100 is none", x.springs(97, 4, 2), 0);
        CHECK.due("400 is one", x.springs(397, 4, 2), 1);
        x.law(0, 0);
        CHECK.due("none", x.springs(1, 99, 2), 0);
    }

    /** "In how many of n YEARS (1 to 30) from y on .. as told (0 to 5 ..). BAD." */
    private static void oftenNumbers() {
        FeastRota x = springDays(0);
        for (int y : NO_YEARS) {
            CHECK.due("year " + y, x.often(0, y, 1, 1), Check.BAD);
        }
        for (int n : new int[] {0, 31, -1, Integer.MIN_VALUE, Integer.MAX_VALUE}) {
            CHECK.due("years " + n, x.often(0, 1, n, 1), Check.BAD);
        }
        for (int f : new int[] {-1, 3, 12, Integer.MIN_VALUE, Integer.MAX_VALUE}) {
            CHECK.due("feast " + f, x.often(f, 1, 1, 1), Check.BAD);
        }
        for (int as : new int[] {-1, 6, Integer.MIN_VALUE, Integer.MAX_VALUE}) {
            CHECK.due("as " + as, x.often(0, 1, 1, as), Check.BAD);
        }
        CHECK.due("as 0", x.often(2, 1, 30, 0), 0);
        CHECK.due("as 5", x.often(2, 1, 30, 5), 0);
    }

    /** "BAD" of often: without a BOOK there is no FEAST. */
    private static void oftenWithoutABook() {
        CHECK.due("no book", new FeastRota().often(0, 1, 1, 1), Check.BAD);
        CHECK.due("no feast", Check.of("k0,0,0;" + TAIL).often(0, 1, 1, 1), Check.BAD);
    }

    /** "(1 ..": of one YEAR; DAY 365 is a Sunday in YEARS 1, 8, 15 .., 995. */
    private static void oftenOfOneYear() {
        FeastRota x = Check.of("k0,0,0;n365,5,1;" + TAIL);
        CHECK.due("in year 1", x.often(0, 1, 1, 1), 1);
        CHECK.due("not in year 2", x.often(0, 2, 1, 1), 0);
        CHECK.due("without an own day in year 2", x.often(0, 2, 1, 0), 1);
        CHECK.due("not without one in year 1", x.often(0, 1, 1, 0), 0);
    }

    /** "(.. to 30)": the last of them is one of them, the next is not. */
    private static void oftenOf30Years() {
        FeastRota x = Check.of("k0,0,0;n365,5,1;" + TAIL);
        CHECK.due("1, 8, 15, 22, 29", x.often(0, 1, 30, 1), 5);
        CHECK.due("the others", x.often(0, 1, 30, 0), 25);
        CHECK.due("36 is the 30th", x.often(0, 7, 30, 1), 5);
        CHECK.due("36 is the 31st", x.often(0, 6, 30, 1), 4);
        CHECK.due("of 7", x.often(0, 2, 7, 1), 1);
        CHECK.due("of 6", x.often(0, 2, 6, 1), 0);
    }

    /** "(to 999 at most)" of often: the YEARS end there, and that is not BAD. */
    private static void oftenToYear999() {
        FeastRota x = Check.of("k0,0,0;n365,5,1;d5,1,1;" + TAIL);
        CHECK.due("995 is the last", x.often(0, 995, 30, 1), 1);
        CHECK.due("none is left", x.often(0, 996, 30, 1), 0);
        CHECK.due("four others", x.often(0, 996, 30, 0), 4);
        CHECK.due("of year 999", x.often(0, 999, 30, 0), 1);
        int years = 0;
        for (int as = 0; as <= 5; as++) {
            years += x.often(1, 970, 30, as);
        }
        CHECK.due("all of 970 to 999", years, 30);
        years = 0;
        for (int as = 0; as <= 5; as++) {
            years += x.often(1, 971, 30, as);
        }
        CHECK.due("all of 971 to 999", years, 29);
    }

    /** "a FEAST is as told (0 to 5: HELD on its OWN DAY 1, and so on)", one FEAST of each sort. */
    private static void oftenOfEachSort() {
        FeastRota x = Check.of("k0,11,4;b99,1,1;d5,5,1;d5,4,1;d5,2,1;d5,1,1;d365,5,1;d365,4,1;" + TAIL);
        int[][] sorts = {{0, 0}, {1, 1}, {2, 2}, {3, 3}, {4, 4}, {6, 5}};
        for (int[] row : sorts) {
            for (int as = 0; as <= 5; as++) {
                CHECK.due("feast " + row[0] + " as " + as, x.often(row[0], 1, 1, as), row[1] == as ? 1 : 0);
            }
        }
        CHECK.due("lost in each year", x.often(6, 1, 30, 5), 30);
    }

    /** "BAD (k 1 to 400)" */
    private static void enoughNumbers() {
        FeastRota x = Check.of("k0,0,0;" + TAIL);
        for (int y : NO_YEARS) {
            CHECK.due("year " + y, x.enough(y, 1), Check.BAD);
        }
        for (int k : new int[] {0, 401, -1, Integer.MIN_VALUE, Integer.MAX_VALUE}) {
            CHECK.due("times " + k, x.enough(1, k), Check.BAD);
        }
        CHECK.due("times 1", x.enough(1, 1), 1);
        CHECK.due("times 400", x.enough(1, 400), Check.NONE);
        CHECK.due("the last year", x.enough(999, 1), 1);
    }

    /** "STATE: no BOOK (ahead of BAD)" of enough. */
    private static void enoughStateAheadOfBad() {
        FeastRota x = new FeastRota();
        CHECK.due("good", x.enough(1, 1), Check.STATE);
        CHECK.due("year", x.enough(0, 1), Check.STATE);
        CHECK.due("times", x.enough(1, 0), Check.STATE);
        CHECK.due("times", x.enough(1, 401), Check.STATE);
    }

    /** "The least EACH (1 .." */
    private static void enoughByOne() {
        // 365 DAYS by 10 psalms
        FeastRota x = Check.of("k0,0,0;p10,9;c2,0;");
        CHECK.due("36 times", x.enough(1, 36), 1);
        CHECK.due("37 times", x.enough(1, 37), 2);
        CHECK.due("73 times", x.enough(1, 73), 2);
        CHECK.due("74 times", x.enough(1, 74), 3);
        CHECK.due("EACH stays", x.law(4, 9), 9);
    }

    /** "(.. to 9)" "NONE" */
    private static void enoughByNine() {
        FeastRota x = Check.of("k1,0,0;" + TAIL);
        CHECK.due("292 times", x.enough(1, 292), 8);
        CHECK.due("293 times", x.enough(1, 293), 9);
        CHECK.due("328 times", x.enough(1, 328), 9);
        CHECK.due("329 times", x.enough(1, 329), Check.NONE);
        CHECK.due("329 times in a leap year", x.enough(4, 329), 9);
        CHECK.due("330 times in a leap year", x.enough(4, 330), Check.NONE);
        x.law(3, 150);
        CHECK.due("21 times 150", x.enough(1, 21), 9);
        CHECK.due("22 times 150", x.enough(1, 22), Check.NONE);
    }

    /** "k times at least": 365 is 5 times 73. */
    private static void enoughExactly() {
        FeastRota x = Check.of("k0,0,0;p73,1;c2,0;");
        for (int each = 1; each <= 9; each++) {
            CHECK.due("by " + each, x.enough(1, 5 * each), each);
            CHECK.due("by more than " + each, x.enough(1, 5 * each + 1), each == 9 ? Check.NONE : each + 1);
        }
    }

    /** "by which the psalter is through": on DAYS of RANK 4 and more nothing is read. */
    private static void enoughWithHighDays() {
        FeastRota x = Check.of("k0,0,0;d365,3,1;p73,1;c2,0;");
        CHECK.due("rank 3", x.enough(1, 5), 1);
        x.alter(0, 2, 4);
        CHECK.due("rank 4", x.enough(1, 5), 2);
    }

    /** "BAD" of best. */
    private static void bestNumbers() {
        FeastRota x = Check.of("k0,0,0;" + TAIL);
        for (int y : NO_YEARS) {
            CHECK.due("year " + y, x.best(y), Check.BAD);
        }
        CHECK.due("the first year", x.best(1), 0);
        CHECK.due("the last year", x.best(999), 0);
    }

    /** "STATE: no BOOK (ahead of BAD)" of best. */
    private static void bestStateAheadOfBad() {
        CHECK.due("good", new FeastRota().best(1), Check.STATE);
        CHECK.due("year 0", new FeastRota().best(0), Check.STATE);
        CHECK.due("year 1000", new FeastRota().best(1000), Check.STATE);
    }

    /** "of several the least": all RULES are as fair, whichever the BOOK has. */
    private static void bestOfSeveral() {
        for (int rule = 0; rule <= 2; rule++) {
            FeastRota x = Check.of("k0,0,0;p10,1;c5," + rule + ";");
            CHECK.due("best", x.best(1), 0);
            CHECK.due("RULE stays", x.law(5, 0), rule);
        }
    }

    /** "The RULE by which a YEAR is the fairest": each can be the one, and those that are as fair go behind. */
    private static void bestOfEachRule() {
        // one of three CHOIRS is away at the end of the YEAR: who is ahead by then decides
        int[] seen = new int[3];
        for (int from = 330; from <= 365; from++) {
            for (int choir = 0; choir <= 2; choir++) {
                FeastRota x = Check.of("k0,0,1;d100,5,1;p10,1;c3,0;");
                x.away(choir, from, 365);
                x.away((choir + 1) % 3, from - 7, from - 5);
                int got = x.best(1);
                int[] gaps = new int[3];
                for (int rule = 0; rule <= 2; rule++) {
                    x.law(5, rule);
                    gaps[rule] = x.fair(1);
                }
                int best = gaps[0] <= gaps[1] && gaps[0] <= gaps[2] ? 0 : gaps[1] <= gaps[2] ? 1 : 2;
                seen[best]++;
                CHECK.due("best of " + gaps[0] + ", " + gaps[1] + ", " + gaps[2], got, best);
            }
        }
        for (int rule = 0; rule <= 2; rule++) {
            CHECK.due("rule " + rule + " was the best", seen[rule] > 0 ? 1 : 0, 1);
        }
    }

    /** "BAD" of bars. */
    private static void barsNumbers() {
        FeastRota x = Check.of("k0,0,0;d10,5,1;d10,4,1;" + TAIL);
        for (int y : NO_YEARS) {
            CHECK.due("year " + y, x.bars(1, y), Check.BAD);
        }
        for (int f : new int[] {-1, 2, 12, Integer.MIN_VALUE, Integer.MAX_VALUE}) {
            CHECK.due("feast " + f, x.bars(f, 1), Check.BAD);
        }
        CHECK.due("the first year", x.bars(1, 1), 1);
        CHECK.due("the last year", x.bars(1, 999), 1);
    }

    /** "BAD" of bars: without a BOOK there is no FEAST. */
    private static void barsWithoutABook() {
        CHECK.due("no book", new FeastRota().bars(0, 1), Check.BAD);
        CHECK.due("no feast", Check.of("k0,0,0;" + TAIL).bars(0, 1), Check.BAD);
    }

    /** "(0 if it is ..": HELD on its OWN DAY. */
    private static void barsOfOneThatIsHeld() {
        FeastRota x = Check.of("k0,0,0;d10,5,1;d10,4,1;d20,1,1;" + TAIL);
        CHECK.due("it takes the day", x.bars(0, 1), 0);
        CHECK.due("it is alone", x.bars(2, 1), 0);
    }

    /** "(.. or has none)" */
    private static void barsWithoutAnOwnDay() {
        FeastRota x = Check.of("k0,11,4;b99,4,1;b99,5,1;n365,1,1;" + TAIL);
        CHECK.due("ahead of the year", x.bars(0, 1), 0);
        CHECK.due("behind it", x.bars(2, 1), 0);
    }

    /** "would be HELD on its OWN DAY": not if that is a Sunday it does not come onto. */
    private static void barsOfASunday() {
        FeastRota x = Check.of("k0,0,0;d8,2,1;d8,1,1;d8,5,1;" + TAIL);
        CHECK.due("rank 2", x.bars(0, 1), 0);
        CHECK.due("rank 1", x.bars(1, 1), 0);
        x.alter(0, 2, 3);
        CHECK.due("rank 3", x.bars(0, 1), 4);
    }

    /** "without one of which, by itself": two that bar it are none. */
    private static void barsByItself() {
        FeastRota x = Check.of("k0,0,0;d10,5,1;d10,2,1;" + TAIL);
        CHECK.due("one", x.bars(1, 1), 1);
        // FEAST 2 would come onto DAY 10 instead of FEAST 0
        x.add(3, 10, 4, 1);
        CHECK.due("two", x.bars(1, 1), 0);
        CHECK.due("the second of them", x.bars(2, 1), 1);
    }

    /** "without one of which": also one that moves another one onto its DAY. */
    private static void barsOfAChain() {
        FeastRota x = Check.of("k0,0,0;d10,5,1;d10,5,1;d11,3,1;" + TAIL);
        CHECK.due("both", x.bars(2, 1), 3);
        CHECK.due("moved", x.held(2, 1, 2), 12);
        CHECK.due("the book is as it was", x.held(0, 1, 0), 1);
        CHECK.due("feasts", x.count(0), 3);
    }

    /** "FEASTS (bits)", the first and the twelfth. */
    private static void barsBits() {
        FeastRota x = Check.of("k0,0,0;d10,5,1;" + "d20,1,1;".repeat(10) + "d10,2,1;" + TAIL);
        CHECK.due("the first", x.bars(11, 1), 1);
        x.alter(0, 2, 1);
        CHECK.due("the twelfth", x.bars(0, 1), 2048);
    }

    /** "would be HELD on its OWN DAY .., though it is not": MOVED, REMEMBERED, LEFT OUT, LOST. */
    private static void barsOfOneThatIsLost() {
        FeastRota x = Check.of("k0,0,1;d365,5,1;d365,4,1;" + TAIL);
        CHECK.due("lost", x.held(1, 1, 0), 5);
        CHECK.due("without it", x.bars(1, 1), 1);
        for (int rank = 1; rank <= 3; rank++) {
            x.alter(1, 2, rank);
            CHECK.due("rank " + rank, x.bars(1, 1), 1);
        }
        x.alter(1, 2, 4);
        x.alter(1, 1, 364);
        x.alter(0, 1, 364);
        CHECK.due("moved", x.held(1, 1, 0), 2);
        CHECK.due("without it", x.bars(1, 1), 1);
    }

    /** "without one of which": who is left out is nowhere, not even on the first DAY. */
    private static void barsOnTheFirstDay() {
        for (int rank = 1; rank <= 5; rank++) {
            FeastRota x = Check.of("k0,0,1;d1,5,1;d1," + rank + ",1;" + TAIL);
            CHECK.due("rank " + rank, x.bars(1, 1), 1);
        }
    }
}
