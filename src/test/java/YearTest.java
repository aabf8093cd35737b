/** Promises 11 to 18: one year. FIRST is 0 in most texts, so that the Sundays of YEAR 1 are DAYS 1, 8, 15 .. 365. */
public final class YearTest {
    private static final Check CHECK = new Check();
    private static final String BARE = "k0,0,0;p10,3;c3,0;";

    public static void main(String[] args) {
        noBook();
        wrongNumbers();
        leapYears();
        moonAndSpring();
        yearSums();
        ownDays();
        ranksOfHeld();
        orderOfHeld();
        sevenDays();
        daysOfYear();
        colours();
        psalms();
        readings();
        choirsByRule();
        longestAgo();
        sameDayTwice();
        missed();
        fairness();
        CHECK.end();
    }

    private static void noBook() {
        FeastRota x = new FeastRota();
        CHECK.due("year", x.year(0, 9), Check.STATE);
        CHECK.due("day", x.day(0, 0, 9), Check.STATE);
        CHECK.due("held", x.held(0, 1, 0), Check.BAD);
        CHECK.due("psalm", x.psalm(0, 0, 9), Check.STATE);
        CHECK.due("read", x.read(0, 0, 0), Check.STATE);
        CHECK.due("sings", x.sings(0, 0, -1), Check.STATE);
        CHECK.due("duties", x.duties(0, 1, 1), Check.BAD);
        CHECK.due("fair", x.fair(0), Check.STATE);
    }

    private static void wrongNumbers() {
        FeastRota x = Check.of("k2,0,0;d8,2,1;p10,3;c3,0;");
        for (int y : new int[] {0, 1000, -1, Integer.MIN_VALUE, Integer.MAX_VALUE}) {
            CHECK.due("year", x.year(y, 0), Check.BAD);
            CHECK.due("day", x.day(y, 1, 0), Check.BAD);
            CHECK.due("held", x.held(0, y, 0), Check.BAD);
            CHECK.due("psalm", x.psalm(y, 1, 0), Check.BAD);
            CHECK.due("read", x.read(y, 1, 1), Check.BAD);
            CHECK.due("sings", x.sings(y, 1, 0), Check.BAD);
            CHECK.due("duties", x.duties(0, y, 0), Check.BAD);
            CHECK.due("fair", x.fair(y), Check.BAD);
        }
        for (int d : new int[] {-1, 366, 367, Integer.MIN_VALUE, Integer.MAX_VALUE}) {
            CHECK.due("day " + d, x.day(1, d, 0), Check.BAD);
            CHECK.due("psalm " + d, x.psalm(1, d, 0), Check.BAD);
            CHECK.due("sings " + d, x.sings(1, d, 0), Check.BAD);
            CHECK.due("duties " + d, x.duties(0, 1, d), Check.BAD);
        }
        CHECK.due("day 0", x.day(1, 0, 0), Check.BAD);
        CHECK.due("psalm of day 0", x.psalm(1, 0, 0), Check.BAD);
        CHECK.due("sings on day 0", x.sings(1, 0, 0), Check.BAD);
        CHECK.due("duties up to day 0", x.duties(0, 1, 0), 0);
        CHECK.due("day 366 of a leap year", x.day(4, 366, 5), 0);
        CHECK.due("day 367 of a leap year", x.day(4, 367, 5), Check.BAD);
        CHECK.due("duties up to 367", x.duties(0, 4, 367), Check.BAD);
        CHECK.due("year what", x.year(1, 9), Check.BAD);
        CHECK.due("year what -1", x.year(1, -1), Check.BAD);
        CHECK.due("day what", x.day(1, 1, 6), Check.BAD);
        CHECK.due("day what -1", x.day(1, 1, -1), Check.BAD);
        CHECK.due("held what", x.held(0, 1, 3), Check.BAD);
        CHECK.due("held what -1", x.held(0, 1, -1), Check.BAD);
        CHECK.due("held feast 1", x.held(1, 1, 0), Check.BAD);
        CHECK.due("held feast -1", x.held(-1, 1, 0), Check.BAD);
        CHECK.due("psalm what", x.psalm(1, 1, 3), Check.BAD);
        CHECK.due("psalm what -1", x.psalm(1, 1, -1), Check.BAD);
        CHECK.due("sings -1", x.sings(1, 1, -1), Check.BAD);
        CHECK.due("duties choir 3", x.duties(3, 1, 1), Check.BAD);
        CHECK.due("duties choir -1", x.duties(-1, 1, 1), Check.BAD);
    }

    private static void leapYears() {
        int[] years = {1, 4, 100, 400, 999, 996};
        int[][] days = {{365, 365, 365, 365, 365, 365}, {365, 366, 366, 366, 365, 366},
            {365, 366, 365, 366, 365, 366}};
        for (int leap = 0; leap <= 2; leap++) {
            FeastRota x = Check.of("k" + leap + ",0,5;p10,3;c3,0;");
            for (int i = 0; i < years.length; i++) {
                CHECK.due("days " + leap + " " + years[i], x.year(years[i], 0), days[leap][i]);
            }
            int weekday = 5;
            for (int y = 1; y <= 420; y++) {
                // an object answers 512 calls
                x = y % 200 == 0 ? Check.of("k" + leap + ",0,5;p10,3;c3,0;") : x;
                CHECK.due("weekday of day 1 " + leap + " " + y, x.year(y, 1), weekday);
                weekday = (weekday + x.year(y, 0)) % 7;
            }
        }
    }

    private static void moonAndSpring() {
        FeastRota x = Check.of(BARE);
        CHECK.due("moon 1", x.year(1, 2), 99);
        // DAY 99 is a Sunday, and SPRING lies behind it
        CHECK.due("spring 1", x.year(1, 3), 106);
        CHECK.due("moon 2", x.year(2, 2), 88);
        CHECK.due("spring 2", x.year(2, 3), 91);
        CHECK.due("moon 19", x.year(19, 2), 80);
        x.law(1, 29);
        CHECK.due("moon 19 by 29", x.year(19, 2), 109);
        CHECK.due("moon 1 by 29", x.year(1, 2), 98);
        x.law(0, 1);
        CHECK.due("moon of a leap year", x.year(76, 2), 110);
    }

    private static void yearSums() {
        FeastRota x = Check.of("k0,0,0;d8,2,1;d8,1,1;d9,4,2;d9,5,2;d9,3,2;p10,3;c3,0;");
        CHECK.due("Sundays", x.year(1, 4), 53);
        CHECK.due("Sundays of year 2", x.year(2, 4), 52);
        // the feasts of RANK 5, 4, 3 lie on DAYS 9, 10, 11
        CHECK.due("days of feasts", x.year(1, 5), 3);
        CHECK.due("remembered", x.year(1, 6), 1);
        CHECK.due("services", x.year(1, 7), 365 + 53 + 3 + 2 + 1);
        CHECK.due("missed", x.year(1, 8), 0);
    }

    private static void ownDays() {
        FeastRota x = Check.of("k1,0,0;b99,5,1;f99,5,1;n59,5,1;n60,5,1;n365,5,1;d59,5,1;d60,5,1;d365,5,1;p10,3;c3,0;");
        int[] common = {7, 205, 64, 64, 365, 59, 60, 365};
        for (int f = 0; f < 8; f++) {
            CHECK.due("own day " + f, x.held(f, 1, 1), common[f]);
        }
        // YEAR 4: DAY 1 is a Wednesday, full moon DATE 96, DAY 97, a Monday: SPRING is 103
        int[] leap = {4, 202, 61, 61, Check.NONE, 59, 61, 366};
        for (int f = 0; f < 8; f++) {
            CHECK.due("own day in a leap year " + f, x.held(f, 4, 1), leap[f]);
        }
        CHECK.due("no own day", x.held(4, 4, 0), 0);
        CHECK.due("no day", x.held(4, 4, 2), Check.NONE);
        // YEAR 19: full moon DAY 80, so that 99 ahead of SPRING is no DAY
        CHECK.due("99 ahead of an early spring", x.held(0, 19, 1), Check.NONE);
        CHECK.due("how it is", x.held(0, 19, 0), 0);
    }

    private static void state(FeastRota x, int feast, int how, int on) {
        CHECK.due("how " + feast, x.held(feast, 1, 0), how);
        CHECK.due("on " + feast, x.held(feast, 1, 2), on);
    }

    private static void ranksOfHeld() {
        FeastRota x = Check.of("k0,0,0;d8,2,1;d8,1,1;d9,1,1;d365,5,1;d365,5,1;d365,4,1;d365,3,1;d10,2,1;d11,3,1;"
            + "d11,2,1;d11,1,1;d15,3,1;p10,3;c3,0;");
        state(x, 0, 3, 8);
        state(x, 1, 4, Check.NONE);
        state(x, 2, 1, 9);
        state(x, 3, 1, 365);
        state(x, 4, 5, Check.NONE);
        state(x, 5, 5, Check.NONE);
        state(x, 6, 3, 365);
        state(x, 7, 1, 10);
        state(x, 8, 1, 11);
        state(x, 9, 3, 11);
        state(x, 10, 4, Check.NONE);
        state(x, 11, 1, 15);
        CHECK.due("held of twelve", x.year(1, 5), 5);
        CHECK.due("remembered of twelve", x.year(1, 6), 3);
        CHECK.due("remembered of twelve on 365", x.day(1, 365, 5), 1);
        x.alter(11, 1, 1);
        state(x, 11, 1, 1);
    }

    private static void orderOfHeld() {
        // SPRING of YEAR 1 is DAY 106, a Sunday
        FeastRota x = Check.of("k0,0,0;d106,4,1;n106,4,1;f0,4,1;b0,4,1;b0,4,1;d106,5,1;p10,3;c3,0;");
        int[] on = {111, 110, 109, 107, 108, 106};
        for (int f = 0; f < 6; f++) {
            state(x, f, f == 5 ? 1 : 2, on[f]);
        }
        // a lesser RANK finds its own DAY taken by one that was moved onto it
        FeastRota y = Check.of("k0,0,0;d10,5,1;d10,5,1;d11,4,1;d12,2,1;p10,3;c3,0;");
        state(y, 1, 2, 11);
        state(y, 2, 2, 12);
        state(y, 3, 3, 12);
    }

    private static void sevenDays() {
        StringBuilder text = new StringBuilder("k0,0,0;d10,3,1;");
        for (int d = 10; d <= 17; d++) {
            text.append('d').append(d).append(",5,1;");
        }
        FeastRota x = Check.of(text + "p10,3;c3,0;");
        state(x, 0, 3, 10);
        x.alter(0, 2, 4);
        state(x, 0, 2, 18);
        x.undo();
        x.alter(8, 1, 20);
        state(x, 0, 2, 17);
        FeastRota end = Check.of("k0,0,0;d364,5,1;d365,5,1;d364,3,1;p10,3;c3,0;");
        state(end, 2, 3, 364);
    }

    private static void daysOfYear() {
        FeastRota x = Check.of("k0,0,0;d8,2,1;d8,2,1;d9,4,2;d10,2,3;d11,1,4;d12,5,5;d13,3,6;p10,3;c3,0;");
        int[][] want = {
            {7, 6, Check.NONE, 0, 0, 1, 0}, {8, 0, Check.NONE, 3, 0, 2, 2}, {9, 1, 2, 4, 2, 3, 0},
            {10, 2, 3, 2, 3, 2, 0}, {11, 3, 4, 1, 4, 1, 0}, {12, 4, 5, 5, 5, 4, 0}, {13, 5, 6, 3, 6, 2, 0}};
        for (int[] row : want) {
            for (int what = 0; what <= 5; what++) {
                CHECK.due("day " + row[0] + " " + what, x.day(1, row[0], what), row[what + 1]);
            }
        }
    }

    private static void colours() {
        FeastRota x = Check.of("k0,0,0;d10,4,1;d20,4,2;d30,4,3;d15,2,4;d15,2,4;z1,0,6;z0,2,5;z0,1,4;z2,3,1;p10,3;c3,0;");
        int[][] want = {{9, 0}, {10, 1}, {11, 5}, {15, 5}, {19, 5}, {20, 2}, {21, 5}, {29, 5}, {30, 3}, {31, 0}};
        for (int[] row : want) {
            CHECK.due("colour of " + row[0], x.day(1, row[0], 3), row[1]);
        }
        // FEASTS 3 and 4 are REMEMBERED on Sunday 15: SEASON 3 (2 to 3) and what begins with 3 never is
        FeastRota y = Check.of("k0,0,0;d15,2,1;d20,4,2;d15,4,2;d15,4,2;z0,1,6;z3,1,5;z2,1,4;p10,3;c3,0;");
        CHECK.due("remembered, not held", y.held(0, 1, 0), 3);
        CHECK.due("moved", y.held(3, 1, 2), 16);
        CHECK.due("colour of 15", y.day(1, 15, 3), 2);
        CHECK.due("the first season from where it was moved", y.day(1, 17, 3), 5);
        y.alter(3, 1, 18);
        CHECK.due("season 0", Check.of("k0,0,0;d1,4,1;d3,4,2;z0,1,6;p10,3;c3,0;").day(1, 2, 3), 6);
        CHECK.due("ahead of the first season", y.day(1, 17, 3), 4);
        CHECK.due("in both", y.day(1, 19, 3), 5);
    }

    private static void psalms() {
        FeastRota x = Check.of(BARE);
        int[][] want = {{1, 1, 3, 0}, {2, 4, 6, 0}, {3, 7, 9, 0}, {4, 10, 2, 1}, {10, 8, 10, 3}, {365, 3, 5, 109}};
        for (int[] row : want) {
            for (int what = 0; what <= 2; what++) {
                CHECK.due("psalm " + row[0] + " " + what, x.psalm(1, row[0], what), row[what + 1]);
            }
        }
        CHECK.due("the course begins anew", x.psalm(2, 1, 0), 1);
        x.add(3, 2, 4, 1);
        x.add(3, 3, 3, 1);
        CHECK.due("none is read", x.psalm(1, 2, 0), Check.NONE);
        CHECK.due("none is the last", x.psalm(1, 2, 1), Check.NONE);
        CHECK.due("times", x.psalm(1, 2, 2), 0);
        CHECK.due("rank 3 reads", x.psalm(1, 3, 0), 4);
        CHECK.due("goes on", x.psalm(1, 4, 0), 7);
        x.law(4, 1);
        CHECK.due("one each", x.psalm(1, 4, 0), 3);
        CHECK.due("one each, last", x.psalm(1, 4, 1), 3);
    }

    private static void readings() {
        FeastRota x = Check.of(BARE);
        CHECK.due("1", x.read(1, 1, 1), 1);
        CHECK.due("10", x.read(1, 10, 1), 4);
        CHECK.due("2 again", x.read(1, 2, 2), 4);
        CHECK.due("3 again", x.read(1, 3, 2), 5);
        CHECK.due("the last one", x.read(1, 5, 110), 365);
        CHECK.due("not so often", x.read(1, 6, 110), Check.NONE);
        CHECK.due("not so often at all", x.read(1, 10, Integer.MAX_VALUE), Check.NONE);
        CHECK.due("psalm 0", x.read(1, 0, 1), Check.BAD);
        CHECK.due("psalm 11", x.read(1, 11, 1), Check.BAD);
        CHECK.due("time 0", x.read(1, 1, 0), Check.BAD);
        CHECK.due("time least", x.read(1, 1, Integer.MIN_VALUE), Check.BAD);
        x.add(3, 4, 5, 1);
        CHECK.due("not on a high day", x.read(1, 10, 1), 5);
        x.law(3, 11);
        CHECK.due("11 of 11", x.read(1, 11, 1), 5);
    }

    private static void sung(FeastRota x, int y, int d, int... choirs) {
        for (int i = 0; i < choirs.length; i++) {
            CHECK.due("sings " + y + " " + d + " " + i, x.sings(y, d, i), choirs[i]);
        }
        CHECK.due("sings " + y + " " + d + " no more", x.sings(y, d, choirs.length), Check.NONE);
    }

    private static void choirsByRule() {
        FeastRota x = Check.of(BARE);
        sung(x, 1, 1, 0, 1);
        sung(x, 1, 2, 2);
        sung(x, 1, 3, 0);
        CHECK.due("far more", x.sings(1, 3, Integer.MAX_VALUE), Check.NONE);
        CHECK.due("duties", x.duties(0, 1, 3), 2);
        CHECK.due("duties", x.duties(1, 1, 3), 1);
        CHECK.due("duties", x.duties(0, 1, 2), 1);
        x.law(5, 2);
        sung(x, 1, 1, 2, 1);
        sung(x, 1, 2, 0);
        sung(x, 1, 3, 2);
        sung(x, 2, 1, 2);
    }

    private static void longestAgo() {
        FeastRota x = Check.of("k0,0,0;p10,3;c3,1;");
        sung(x, 1, 1, 0, 1);
        sung(x, 1, 2, 2);
        sung(x, 1, 3, 0);
        x.away(0, 1, 1);
        sung(x, 1, 1, 1, 2);
        sung(x, 1, 2, 0);
        sung(x, 1, 3, 1);
        sung(x, 1, 8, 0, 1);
        // on Sunday 15 choir 2 sings ahead of choir 0: of the two its latest SERVICE was longer ago
        sung(x, 1, 15, 2, 0);
        sung(x, 1, 16, 1);
        sung(x, 1, 17, 2);
        sung(x, 1, 18, 0);
    }

    private static void sameDayTwice() {
        FeastRota x = Check.of("k0,0,0;d2,5,1;p10,3;c3,0;");
        sung(x, 1, 1, 0, 1);
        // choir 0 has fewer than choir 1 by then or as many: first all that had none on this day
        sung(x, 1, 2, 2, 0, 1, 2);
        x.law(5, 2);
        sung(x, 1, 1, 2, 1);
        sung(x, 1, 2, 0, 2, 1, 0);
        x.away(1, 2, 2);
        sung(x, 1, 2, 0, 2, 0, 2);
        x.away(2, 2, 2);
        sung(x, 1, 2, 0, 0, 0, 0);
    }

    private static void missed() {
        FeastRota x = Check.of("k0,0,0;d2,5,1;p10,3;c2,0;");
        x.away(0, 2, 3);
        x.away(1, 2, 4);
        CHECK.due("missed", x.year(1, 8), 5);
        CHECK.due("services all the same", x.year(1, 7), 365 + 53 + 3);
        sung(x, 1, 2, Check.NONE, Check.NONE, Check.NONE, Check.NONE);
        sung(x, 1, 3, Check.NONE);
        sung(x, 1, 4, 0);
        sung(x, 1, 5, 1);
        x.away(0, 0, 366);
        x.away(1, 0, 366);
        CHECK.due("all missed", x.year(1, 8), 421);
        CHECK.due("fair to all", x.fair(1), 0);
    }

    private static void fairness() {
        FeastRota x = Check.of(BARE);
        // 418 SERVICES by three: 140, 139, 139
        CHECK.due("fair", x.fair(1), 1);
        CHECK.due("duties 0", x.duties(0, 1, 365), 140);
        CHECK.due("duties 1", x.duties(1, 1, 365), 139);
        CHECK.due("duties 2", x.duties(2, 1, 365), 139);
        x.away(2, 0, 366);
        CHECK.due("fair to one who is away", x.fair(1), 209);
    }
}
