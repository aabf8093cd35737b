/** Promises 19 to 24: many years, and what would be. */
public final class YearsTest {
    private static final Check CHECK = new Check();
    private static final String TEXT =
        "k2,15,1;b46,4,3;f0,5,1;f39,5,2;n30,3,4;d106,5,1;d100,2,5;d101,1,6;z0,1,3;z1,2,1;p50,5;c4,1;";

    public static void main(String[] args) {
        noBook();
        wrongNumbers();
        meeting();
        springs();
        often();
        enough();
        best();
        bars();
        CHECK.end();
    }

    private static void noBook() {
        FeastRota x = new FeastRota();
        CHECK.due("meet", x.meet(0, 1, 1), Check.BAD);
        CHECK.due("springs", x.springs(0, 0, 9), Check.STATE);
        CHECK.due("often", x.often(0, 1, 1, 0), Check.BAD);
        CHECK.due("enough", x.enough(0, 0), Check.STATE);
        CHECK.due("best", x.best(0), Check.STATE);
        CHECK.due("bars", x.bars(0, 1), Check.BAD);
    }

    private static void wrongNumbers() {
        FeastRota x = Check.of(TEXT);
        for (int y : new int[] {0, 1000, Integer.MIN_VALUE, Integer.MAX_VALUE}) {
            CHECK.due("meet", x.meet(0, 1, y), Check.BAD);
            CHECK.due("springs", x.springs(y, 1, 0), Check.BAD);
            CHECK.due("often", x.often(0, y, 1, 0), Check.BAD);
            CHECK.due("enough", x.enough(y, 1), Check.BAD);
            CHECK.due("best", x.best(y), Check.BAD);
            CHECK.due("bars", x.bars(0, y), Check.BAD);
        }
        for (int f : new int[] {-1, 7, Integer.MIN_VALUE, Integer.MAX_VALUE}) {
            CHECK.due("meet a", x.meet(f, 1, 1), Check.BAD);
            CHECK.due("meet b", x.meet(1, f, 1), Check.BAD);
            CHECK.due("often", x.often(f, 1, 1, 0), Check.BAD);
            CHECK.due("bars", x.bars(f, 1), Check.BAD);
        }
        CHECK.due("meet itself", x.meet(1, 1, 1), Check.BAD);
        for (int n : new int[] {0, 100, Integer.MIN_VALUE, Integer.MAX_VALUE}) {
            CHECK.due("springs n", x.springs(1, n, 0), Check.BAD);
        }
        for (int n : new int[] {0, 31, Integer.MIN_VALUE, Integer.MAX_VALUE}) {
            CHECK.due("often n", x.often(0, 1, n, 0), Check.BAD);
        }
        for (int k : new int[] {0, 401, Integer.MIN_VALUE, Integer.MAX_VALUE}) {
            CHECK.due("enough k", x.enough(1, k), Check.BAD);
        }
        CHECK.due("springs what 3", x.springs(1, 1, 3), Check.BAD);
        CHECK.due("springs what -1", x.springs(1, 1, -1), Check.BAD);
        CHECK.due("often as 6", x.often(0, 1, 1, 6), Check.BAD);
        CHECK.due("often as -1", x.often(0, 1, 1, -1), Check.BAD);
    }

    private static int meetByOwnDays(int a, int b, int y) {
        FeastRota x = Check.of(TEXT);
        for (int at = y; at < y + 99 && at <= 999; at++) {
            int own = x.held(a, at, 1);
            if (own != Check.NONE && own == x.held(b, at, 1)) {
                return at;
            }
        }
        return Check.NONE;
    }

    private static void meeting() {
        FeastRota x = Check.of(TEXT);
        for (int a = 0; a < 7; a++) {
            for (int b = 0; b < 7; b++) {
                for (int y : new int[] {1, 50, 444, 880, 990, 999}) {
                    if (a != b) {
                        CHECK.due("meet " + a + " " + b + " " + y, x.meet(a, b, y), meetByOwnDays(a, b, y));
                    }
                }
            }
        }
        FeastRota plain = Check.of("k0,0,0;d106,1,1;f0,5,1;b99,5,1;b98,5,1;n365,5,1;n364,5,1;p10,3;c3,0;");
        CHECK.due("spring of year 1", plain.meet(0, 1, 1), 1);
        CHECK.due("never", plain.meet(2, 3, 1), Check.NONE);
        // both have no DAY in YEARS 3 to 7, DAY 365 is a Sunday again in YEAR 8
        CHECK.due("two without a day do not meet", plain.meet(4, 5, 3), 8);
        CHECK.due("two without a day, to 999", plain.meet(2, 4, 999), Check.NONE);
        lastYearThatIsLookedAt();
    }

    private static void lastYearThatIsLookedAt() {
        // between two YEARS in which SPRING is DAY 81 there can be 100 and more
        FeastRota x = Check.of("k0,0,0;d81,1,1;f0,5,1;p10,3;c3,0;");
        int checked = 0;
        int before = 0;
        for (int y = 1; y <= 999; y++) {
            // an object answers 512 calls
            x = y % 400 == 0 ? Check.of("k0,0,0;d81,1,1;f0,5,1;p10,3;c3,0;") : x;
            if (x.held(1, y, 1) == 81) {
                if (before > 0 && y - before >= 100) {
                    CHECK.due("the 99th year", x.meet(0, 1, y - 98), y);
                    CHECK.due("the 100th year", x.meet(0, 1, y - 99), Check.NONE);
                    checked++;
                }
                before = y;
            }
        }
        CHECK.due("such a gap is there", checked > 0 ? 1 : 0, 1);
    }

    private static void springs() {
        int[][] spans = {{1, 1}, {4, 1}, {1, 99}, {4, 19}, {901, 99}, {950, 99}, {999, 99}, {396, 9}, {999, 1}};
        for (int[] span : spans) {
            FeastRota x = Check.of(TEXT);
            int earliest = 999;
            int latest = 0;
            int leapYears = 0;
            for (int y = span[0]; y < span[0] + span[1] && y <= 999; y++) {
                int more = x.year(y, 0) - 365;
                earliest = Math.min(earliest, x.year(y, 3) - more);
                latest = Math.max(latest, x.year(y, 3) - more);
                leapYears += more;
            }
            CHECK.due("earliest", x.springs(span[0], span[1], 0), earliest);
            CHECK.due("latest", x.springs(span[0], span[1], 1), latest);
            CHECK.due("leap years", x.springs(span[0], span[1], 2), leapYears);
        }
        FeastRota plain = Check.of("k1,0,0;p10,3;c3,0;");
        // the full moon of YEAR 4 is DATE 96, DAY 97, a Monday
        CHECK.due("a leap year's spring", plain.year(4, 3), 103);
        CHECK.due("as a date", plain.springs(4, 1, 0), 102);
        CHECK.due("as a date", plain.springs(4, 1, 1), 102);
        CHECK.due("a leap year", plain.springs(4, 1, 2), 1);
        CHECK.due("none", plain.springs(1, 3, 2), 0);
    }

    private static FeastRota crowdedEnd() {
        FeastRota x = Check.of(TEXT);
        x.add(3, 365, 5, 1);
        x.add(3, 365, 4, 1);
        x.add(2, 362, 4, 1);
        return x;
    }

    private static void often() {
        for (int f = 0; f < 10; f++) {
            FeastRota x = crowdedEnd();
            for (int y : new int[] {1, 300, 980}) {
                int[] times = new int[6];
                for (int at = y; at < y + 30 && at <= 999; at++) {
                    times[x.held(f, at, 0)]++;
                }
                for (int as = 0; as <= 5; as++) {
                    CHECK.due("often " + f + " " + y + " " + as, x.often(f, y, 30, as), times[as]);
                }
            }
            CHECK.due("one year", x.often(f, 7, 1, x.held(f, 7, 0)), 1);
        }
        CHECK.due("lost in each year", crowdedEnd().often(8, 1, 30, 5), 30);
    }

    private static void enough() {
        FeastRota x = Check.of("k0,0,0;d5,4,1;p10,3;c3,0;");
        // 364 DAYS on which psalms are read, 10 psalms
        CHECK.due("1", x.enough(1, 1), 1);
        CHECK.due("36", x.enough(1, 36), 1);
        CHECK.due("37", x.enough(1, 37), 2);
        CHECK.due("327", x.enough(1, 327), 9);
        CHECK.due("328", x.enough(1, 328), Check.NONE);
        CHECK.due("400", x.enough(1, 400), Check.NONE);
        CHECK.due("no act", x.count(3), 0);
        x.law(3, 14);
        CHECK.due("26 of 14", x.enough(1, 26), 1);
        CHECK.due("27 of 14", x.enough(1, 27), 2);
        x.law(4, 9);
        CHECK.due("EACH does not matter", x.enough(1, 26), 1);
    }

    private static int fairestByGaps(FeastRota x, int y) {
        int fairest = 0;
        int least = Integer.MAX_VALUE;
        for (int rule = 0; rule <= 2; rule++) {
            x.law(5, rule);
            int gap = x.fair(y);
            x.undo();
            if (gap < least) {
                least = gap;
                fairest = rule;
            }
        }
        return fairest;
    }

    private static void best() {
        int[][] spells = {{0, 0}, {1, 100}, {300, 365}, {40, 320}, {340, 361}, {0, 366}};
        boolean[] seen = new boolean[3];
        for (int choir = 0; choir < 4; choir++) {
            for (int[] spell : spells) {
                FeastRota x = Check.of(TEXT);
                x.away(choir, spell[0], spell[1]);
                for (int y = 1; y <= 30; y++) {
                    int fairest = fairestByGaps(x, y);
                    seen[fairest] = true;
                    CHECK.due("best " + y, x.best(y), fairest);
                }
                CHECK.due("the rule stays", x.law(5, 0), 1);
            }
        }
        CHECK.due("not always the same", seen[0] && seen[2] ? 1 : 0, 1);
        FeastRota longestAgo = Check.of("k1,3,1;p10,1;c3,0;");
        longestAgo.away(0, 117, 132);
        longestAgo.away(1, 208, 340);
        longestAgo.away(2, 93, 286);
        CHECK.due("rule 1 can be the fairest", longestAgo.best(1), 1);
    }

    private static void bars() {
        FeastRota x = Check.of("k0,0,0;d10,5,1;d10,5,1;d11,4,1;d8,1,1;d20,5,1;d20,5,1;d20,2,1;n365,5,1;p10,3;c3,0;");
        CHECK.due("held", x.bars(0, 1), 0);
        CHECK.due("one ahead of it", x.bars(1, 1), 1);
        CHECK.due("one of a chain", x.bars(2, 1), 3);
        CHECK.due("a Sunday", x.bars(3, 1), 0);
        // DAY 20 goes to FEAST 4 or, without it, to FEAST 5
        CHECK.due("two ahead of it", x.bars(6, 1), 0);
        CHECK.due("the second", x.bars(5, 1), 16);
        CHECK.due("no own day", x.bars(7, 2), 0);
        CHECK.due("what was left out is there again", x.held(0, 1, 0), 1);
        FeastRota y = Check.of("k0,0,0;d10,2,1;" + "d9,1,1;".repeat(10) + "d10,3,1;p10,3;c3,0;");
        CHECK.due("the twelfth", y.bars(0, 1), 2048);
    }
}
