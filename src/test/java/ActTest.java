/** Promises 5 to 10 and 25 to 27: acts, undo, images, counts. */
public final class ActTest {
    private static final Check CHECK = new Check();
    private static final String TEXT = "k1,2,3;b0,1,1;f99,2,2;n1,3,3;d365,4,4;z0,1,5;p20,3;c3,1;";

    public static void main(String[] args) {
        noBook();
        feastMarks();
        altering();
        kindsAndN();
        adding();
        laws();
        goingAway();
        undoing();
        sixteenActs();
        oldestOfAnotherSort();
        mixedActs();
        undoAtTheEdges();
        images();
        counts();
        CHECK.end();
    }

    private static void noBook() {
        FeastRota x = new FeastRota();
        CHECK.due("undo", x.undo(), Check.STATE);
        CHECK.due("alter", x.alter(0, 2, 1), Check.BAD);
        CHECK.due("add", x.add(0, 1, 1, 1), Check.STATE);
        CHECK.due("add, bad", x.add(4, 1, 1, 1), Check.STATE);
        CHECK.due("law", x.law(0, 0), Check.STATE);
        CHECK.due("law, bad", x.law(6, 0), Check.STATE);
        CHECK.due("away", x.away(0, 1, 2), Check.BAD);
        CHECK.due("feast", x.feast(0, 0), Check.BAD);
        CHECK.due("image", x.image(1), Check.STATE);
        CHECK.due("image, bad", x.image(-1), Check.BAD);
        CHECK.due("restore", x.restore(1), Check.STATE);
        CHECK.due("restore, bad", x.restore(-1), Check.BAD);
        CHECK.due("acts", x.count(3), 0);
    }

    private static void feastMarks() {
        FeastRota x = Check.of(TEXT);
        int[][] want = {{0, 0, 1, 1}, {1, 99, 2, 2}, {2, 1, 3, 3}, {3, 365, 4, 4}};
        for (int f = 0; f < 4; f++) {
            for (int what = 0; what < 4; what++) {
                CHECK.due("feast " + f + " " + what, x.feast(f, what), want[f][what]);
            }
        }
        CHECK.due("feast 4", x.feast(4, 0), Check.BAD);
        CHECK.due("feast -1", x.feast(-1, 0), Check.BAD);
        CHECK.due("feast what 4", x.feast(0, 4), Check.BAD);
        CHECK.due("feast what -1", x.feast(0, -1), Check.BAD);
    }

    private static void altering() {
        FeastRota x = Check.of(TEXT);
        CHECK.due("rank", x.alter(0, 2, 5), 1);
        CHECK.due("rank is", x.feast(0, 2), 5);
        CHECK.due("rank again", x.alter(0, 2, 5), 5);
        CHECK.due("two acts", x.count(3), 2);
        CHECK.due("rank 0", x.alter(0, 2, 0), Check.BAD);
        CHECK.due("rank 6", x.alter(0, 2, 6), Check.BAD);
        CHECK.due("colour", x.alter(1, 3, 6), 2);
        CHECK.due("colour 0", x.alter(1, 3, 0), Check.BAD);
        CHECK.due("colour 7", x.alter(1, 3, 7), Check.BAD);
        CHECK.due("colour is", x.feast(1, 3), 6);
        CHECK.due("which 4", x.alter(0, 4, 1), Check.BAD);
        CHECK.due("which -1", x.alter(0, -1, 1), Check.BAD);
        CHECK.due("feast 4", x.alter(4, 2, 1), Check.BAD);
        CHECK.due("feast -1", x.alter(-1, 2, 1), Check.BAD);
        CHECK.due("acts", x.count(3), 3);
    }

    private static void kindsAndN() {
        FeastRota x = Check.of(TEXT);
        CHECK.due("b 100", x.alter(0, 1, 100), Check.BAD);
        CHECK.due("b -1", x.alter(0, 1, -1), Check.BAD);
        CHECK.due("b 99", x.alter(0, 1, 99), 0);
        CHECK.due("b back to 0", x.alter(0, 1, 0), 99);
        CHECK.due("n 0", x.alter(2, 1, 0), Check.BAD);
        CHECK.due("n 366", x.alter(2, 1, 366), Check.BAD);
        CHECK.due("d 0", x.alter(3, 1, 0), Check.BAD);
        CHECK.due("d 366", x.alter(3, 1, 366), Check.BAD);
        CHECK.due("b 0 to n", x.alter(0, 0, 2), Check.BAD);
        CHECK.due("b 0 to d", x.alter(0, 0, 3), Check.BAD);
        CHECK.due("b 0 to f", x.alter(0, 0, 1), 0);
        CHECK.due("d 365 to b", x.alter(3, 0, 0), Check.BAD);
        CHECK.due("d 365 to f", x.alter(3, 0, 1), Check.BAD);
        CHECK.due("d 365 to n", x.alter(3, 0, 2), 3);
        CHECK.due("n 1 to b", x.alter(2, 0, 0), 2);
        CHECK.due("f 99 to d", x.alter(1, 0, 3), 1);
        CHECK.due("d 99 to 100", x.alter(1, 1, 100), 99);
        CHECK.due("d 100 to f", x.alter(1, 0, 1), Check.BAD);
        CHECK.due("kind 4", x.alter(1, 0, 4), Check.BAD);
        CHECK.due("kind -1", x.alter(1, 0, -1), Check.BAD);
        CHECK.due("acts", x.count(3), 7);
    }

    private static void adding() {
        FeastRota x = Check.of(TEXT);
        CHECK.due("add", x.add(3, 200, 5, 6), 4);
        CHECK.due("its kind", x.feast(4, 0), 3);
        CHECK.due("its N", x.feast(4, 1), 200);
        CHECK.due("its rank", x.feast(4, 2), 5);
        CHECK.due("its colour", x.feast(4, 3), 6);
        int[][] bad = {{-1, 1, 1, 1}, {4, 1, 1, 1}, {0, 100, 1, 1}, {1, -1, 1, 1}, {2, 0, 1, 1}, {3, 366, 1, 1},
            {3, 1, 0, 1}, {3, 1, 6, 1}, {3, 1, 1, 0}, {3, 1, 1, 7}};
        for (int[] b : bad) {
            CHECK.due("bad add", x.add(b[0], b[1], b[2], b[3]), Check.BAD);
        }
        for (int f = 5; f < 12; f++) {
            CHECK.due("add " + f, x.add(f % 2, 0, 1, 1), f);
        }
        CHECK.due("add 12", x.add(0, 0, 1, 1), Check.FULL);
        CHECK.due("bad add 12", x.add(0, 100, 1, 1), Check.BAD);
        CHECK.due("feasts", x.count(0), 12);
        CHECK.due("acts", x.count(3), 8);
        CHECK.due("undo", x.undo(), 7);
        CHECK.due("feast 11", x.feast(11, 0), Check.BAD);
        CHECK.due("add again", x.add(2, 7, 2, 2), 11);
        CHECK.due("its N", x.feast(11, 1), 7);
    }

    private static void laws() {
        FeastRota x = Check.of(TEXT);
        int[] was = {1, 2, 3, 20, 3, 1};
        int[] least = {0, 0, 0, 10, 1, 0};
        int[] greatest = {2, 29, 6, 150, 9, 2};
        for (int which = 0; which < 6; which++) {
            CHECK.due("law below " + which, x.law(which, least[which] - 1), Check.BAD);
            CHECK.due("law above " + which, x.law(which, greatest[which] + 1), Check.BAD);
            CHECK.due("law least " + which, x.law(which, least[which]), was[which]);
            CHECK.due("law greatest " + which, x.law(which, greatest[which]), least[which]);
        }
        CHECK.due("law 6", x.law(6, 1), Check.BAD);
        CHECK.due("law -1", x.law(-1, 1), Check.BAD);
        CHECK.due("acts", x.count(3), 12);
    }

    private static void goingAway() {
        FeastRota x = Check.of("k0,0,0;p10,1;c2,0;");
        CHECK.due("choir 2", x.away(2, 1, 2), Check.BAD);
        CHECK.due("choir -1", x.away(-1, 1, 2), Check.BAD);
        CHECK.due("from -1", x.away(0, -1, 2), Check.BAD);
        CHECK.due("from 367", x.away(0, 367, 2), Check.BAD);
        CHECK.due("to -1", x.away(0, 1, -1), Check.BAD);
        CHECK.due("to 367", x.away(0, 1, 367), Check.BAD);
        CHECK.due("no act", x.count(3), 0);
        CHECK.due("away", x.away(0, 3, 4), 1);
        // DAY 1 is a Sunday: both sing; on DAYS 2 .. 5 by turns, but for choir 0 on 3 and 4
        CHECK.due("day 2", x.sings(1, 2, 0), 0);
        CHECK.due("day 3", x.sings(1, 3, 0), 1);
        CHECK.due("day 4", x.sings(1, 4, 0), 1);
        CHECK.due("day 5", x.sings(1, 5, 0), 0);
        CHECK.due("in each year", x.sings(2, 4, 0), 1);
        CHECK.due("anew", x.away(0, 4, 3), 1);
        CHECK.due("never away", x.sings(1, 4, 0), 0);
        CHECK.due("undo", x.undo(), 1);
        CHECK.due("away as before", x.sings(1, 4, 0), 1);
        CHECK.due("undo", x.undo(), 0);
        CHECK.due("never away at first", x.sings(1, 4, 0), 0);
        CHECK.due("0 to 366", x.away(1, 0, 366), 1);
        CHECK.due("days of 1", x.duties(1, 1, 365), 0);
    }

    private static void undoing() {
        FeastRota x = Check.of(TEXT);
        x.alter(0, 2, 3);
        x.add(3, 9, 1, 1);
        x.alter(4, 1, 10);
        x.law(3, 100);
        CHECK.due("acts", x.count(3), 4);
        CHECK.due("undo law", x.undo(), 3);
        CHECK.due("psalms as before", x.law(3, 20), 20);
        CHECK.due("undo law again", x.undo(), 3);
        CHECK.due("undo alter", x.undo(), 2);
        CHECK.due("N as before", x.feast(4, 1), 9);
        CHECK.due("undo add", x.undo(), 1);
        CHECK.due("no feast 4", x.feast(4, 1), Check.BAD);
        CHECK.due("undo rank", x.undo(), 0);
        CHECK.due("rank as before", x.feast(0, 2), 1);
        CHECK.due("none left", x.undo(), Check.STATE);
        x.law(5, 9);
        x.alter(0, 2, 9);
        x.add(0, 0, 0, 0);
        x.away(0, 0, 999);
        CHECK.due("refusals are no acts", x.count(3), 0);
    }

    private static void sixteenActs() {
        FeastRota x = Check.of(TEXT);
        for (int i = 1; i <= 20; i++) {
            x.law(1, i);
            CHECK.due("acts", x.count(3), Math.min(i, 16));
        }
        for (int i = 15; i >= 0; i--) {
            CHECK.due("undo", x.undo(), i);
        }
        CHECK.due("the oldest are forgotten", x.law(1, 0), 4);
        CHECK.due("undo", x.undo(), 0);
        CHECK.due("none left", x.undo(), Check.STATE);
    }

    private static void oldestOfAnotherSort() {
        FeastRota x = Check.of(TEXT);
        x.add(3, 9, 1, 1);
        for (int i = 1; i <= 16; i++) {
            x.law(1, i);
        }
        for (int i = 15; i >= 0; i--) {
            CHECK.due("undo", x.undo(), i);
        }
        CHECK.due("the feast stays", x.count(0), 5);
        CHECK.due("the moon as told", x.law(1, 2), 2);
    }

    /** Acts of all sorts move up by one when the oldest is forgotten. */
    private static void mixedActs() {
        FeastRota x = Check.of(TEXT);
        for (int i = 0; i < 6; i++) {
            x.law(2, i);
            x.away(2, i + 10, i + 20);
            x.add(3, i + 1, 1, 1);
            x.alter(i, 3, 6);
        }
        CHECK.due("acts", x.count(3), 16);
        for (int i = 5; i >= 2; i--) {
            CHECK.due("colour " + i, x.feast(i, 3), 6);
            x.undo();
            CHECK.due("colour " + i + " undone", x.feast(i, 3), i < 4 ? i + 1 : 1);
            x.undo();
            CHECK.due("feasts", x.count(0), 4 + i);
            CHECK.due("away until", x.duties(2, 1, i + 20) - x.duties(2, 1, i + 9), 0);
            x.undo();
            CHECK.due("not away until", x.duties(2, 1, i + 20) - x.duties(2, 1, i + 19) > 0 ? 1 : 0, 1);
            CHECK.due("away as before", x.duties(2, 1, i + 19) - x.duties(2, 1, i + 8), 0);
            CHECK.due("weekday", x.year(1, 1), i);
            x.undo();
            CHECK.due("weekday undone", x.year(1, 1), i - 1);
        }
        CHECK.due("none left", x.undo(), Check.STATE);
    }

    private static void undoAtTheEdges() {
        FeastRota x = Check.of("k1,2,3;" + "b1,1,1;".repeat(12) + "p20,3;c5,1;");
        x.alter(0, 0, 1);
        x.alter(11, 3, 6);
        x.law(0, 2);
        x.law(5, 2);
        x.away(4, 0, 366);
        CHECK.due("away", x.duties(4, 1, 365), 0);
        CHECK.due("undo away", x.undo(), 4);
        CHECK.due("not away", x.duties(4, 1, 365) > 0 ? 1 : 0, 1);
        CHECK.due("undo rule", x.undo(), 3);
        CHECK.due("undo leap", x.undo(), 2);
        CHECK.due("rule as before", x.law(5, 1), 1);
        CHECK.due("leap as before", x.law(0, 1), 1);
        x.undo();
        x.undo();
        CHECK.due("undo colour", x.undo(), 1);
        CHECK.due("colour as before", x.feast(11, 3), 1);
        CHECK.due("undo kind", x.undo(), 0);
        CHECK.due("kind as before", x.feast(0, 0), 0);
        FeastRota y = Check.of("k1,2,3;p20,3;c5,1;");
        y.add(3, 1, 1, 1);
        y.undo();
        CHECK.due("no feast", y.count(0), 0);
    }

    private static void images() {
        FeastRota x = Check.of(TEXT);
        CHECK.due("restore, none", x.restore(0), Check.STATE);
        x.away(0, 2, 2);
        CHECK.due("image 0", x.image(0), 1);
        CHECK.due("an image is no act", x.count(3), 1);
        CHECK.due("restore 1, none", x.restore(1), Check.STATE);
        CHECK.due("image 2", x.image(2), Check.BAD);
        CHECK.due("restore 2", x.restore(2), Check.BAD);
        x.add(3, 9, 1, 1);
        x.law(0, 0);
        x.away(0, 1, 366);
        CHECK.due("image 1", x.image(1), 1);
        Check.tell(x, "k0,0,0;p10,1;c2,0;");
        Check.feed(x, "k0");
        x.law(3, 30);
        CHECK.due("restore 1", x.restore(1), 1);
        CHECK.due("feasts", x.count(0), 5);
        CHECK.due("seasons", x.count(1), 1);
        CHECK.due("choirs", x.count(2), 3);
        CHECK.due("no act", x.count(3), 0);
        CHECK.due("undo", x.undo(), Check.STATE);
        CHECK.due("the tape stays", x.count(4), 2);
        CHECK.due("away always", x.duties(0, 1, 365), 0);
        CHECK.due("no leap years", x.year(4, 0), 365);
        CHECK.due("restore 0", x.restore(0), 1);
        CHECK.due("feasts", x.count(0), 4);
        CHECK.due("leap years", x.year(4, 0), 366);
        CHECK.due("away on day 2", x.duties(0, 1, 2), 1);
        x.alter(0, 3, 6);
        CHECK.due("restore 0 again", x.restore(0), 1);
        CHECK.due("an image is not altered", x.feast(0, 3), 1);
    }

    private static void counts() {
        FeastRota x = Check.of(TEXT);
        Check.feed(x, "abc");
        x.law(0, 0);
        int[] want = {4, 1, 3, 1, 3};
        for (int what = 0; what < 5; what++) {
            CHECK.due("count " + what, x.count(what), want[what]);
        }
        CHECK.due("count -1", x.count(-1), Check.BAD);
        CHECK.due("count 5", x.count(5), Check.BAD);
    }
}
