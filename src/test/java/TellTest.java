/** Promises 1 to 4: a new object, feed, book, fault. */
public final class TellTest {
    private static final Check CHECK = new Check();
    private static final String HEAD = "k0,0,0;";
    private static final String TAIL = "p10,1;c2,0;";

    public static void main(String[] args) {
        newObject();
        feeding();
        goodBooks();
        cannotStand();
        badNumbers();
        tooMany();
        whatStays();
        fullTape();
        bytesOfAnEarlierTape();
        CHECK.end();
    }

    private static void newObject() {
        FeastRota x = new FeastRota();
        for (int what = 0; what <= 4; what++) {
            CHECK.due("new count " + what, x.count(what), 0);
        }
        CHECK.due("new fault", x.fault(), 0);
        CHECK.due("new year", x.year(1, 0), Check.STATE);
        CHECK.due("new restore", x.restore(0), Check.STATE);
    }

    private static void feeding() {
        FeastRota x = new FeastRota();
        CHECK.due("feed -1", x.feed(-1), Check.BAD);
        CHECK.due("feed 256", x.feed(256), Check.BAD);
        CHECK.due("feed least int", x.feed(Integer.MIN_VALUE), Check.BAD);
        for (int i = 1; i <= 160; i++) {
            CHECK.due("feed " + i, x.feed(i % 2 == 0 ? 0 : 255), i);
        }
        CHECK.due("feed 161st", x.feed(0), Check.FULL);
        CHECK.due("feed 161st, no byte", x.feed(256), Check.BAD);
        CHECK.due("bytes", x.count(4), 160);
        CHECK.due("book", x.book(), -1000100);
        CHECK.due("bytes then", x.count(4), 0);
        CHECK.due("feed again", x.feed(107), 1);
    }

    private static void good(String text, int feasts) {
        FeastRota x = new FeastRota();
        CHECK.due(text, Check.tell(x, text), feasts);
        CHECK.due("fault of " + text, x.fault(), 0);
    }

    private static void bad(String text, int place, int fault) {
        FeastRota x = new FeastRota();
        CHECK.due(text, Check.tell(x, text), -1000100 - place);
        CHECK.due("fault of " + text, x.fault(), fault);
        CHECK.due("no book after " + text, x.year(1, 0), Check.STATE);
        CHECK.due("tape after " + text, x.count(4), 0);
    }

    private static void goodBooks() {
        good(HEAD + TAIL, 0);
        good("k002,029,006;p010,001;c002,000;", 0);
        good("k2,29,6;p150,9;c5,2;", 0);
        good(HEAD + "b0,1,1;f0,5,6;b99,1,1;f99,1,1;" + TAIL, 4);
        good(HEAD + "d1,1,1;n1,1,1;d365,1,1;n365,1,1;" + TAIL, 4);
        good(HEAD + "d1,1,1;".repeat(12) + "z0,11,1;z11,0,6;z1,2,1;z2,1,1;" + TAIL, 12);
    }

    private static void cannotStand() {
        bad("", 0, 1);
        bad("k", 1, 1);
        bad("k0", 2, 1);
        bad("p", 0, 1);
        bad("K", 0, 1);
        bad(" " + HEAD + TAIL, 0, 1);
        bad("k 0,0,0;", 1, 1);
        bad("k,", 1, 1);
        bad("k0;0,0;", 2, 1);
        bad("k0,0,0,", 6, 1);
        bad("k0000,0,0;", 1, 1);
        bad("k9999,0,0;", 1, 1);
        bad("k0,0,12345;", 5, 1);
        bad("k0,0,0;1", 7, 1);
        bad("k0,0,0;0000", 7, 1);
        bad(HEAD, 7, 1);
        bad(HEAD + "x", 7, 1);
        bad(HEAD + "k", 7, 1);
        bad(HEAD + "c2,0;", 7, 1);
        bad(HEAD + "d1,1,1", 13, 1);
        bad(HEAD + "dd", 8, 1);
        bad(HEAD + "d1,1,1;d2,1,1;z0,1,1;d1,1,1;" + TAIL, 28, 1);
        bad(HEAD + "d1,1,1;".repeat(12) + "z0,1,1;d1,1,1;", 98, 1);
        bad(HEAD + "p10,1;d1,1,1;", 13, 1);
        bad(HEAD + "p10,1;p10,1;", 13, 1);
        bad(HEAD + "p10,1;", 13, 1);
        bad(HEAD + TAIL + ";", 18, 1);
        bad(HEAD + TAIL + "c", 18, 1);
        bad(HEAD + TAIL + "9999", 18, 1);
        bad(HEAD + TAIL + (char) 0, 18, 1);
        bad(HEAD + "d1,1,1;d2,1,1;z0,1;", 25, 1);
        bad(HEAD + (char) 255, 7, 1);
    }

    private static void badNumbers() {
        bad("k3,0,0;", 1, 2);
        bad("k999,0,0;", 1, 2);
        bad("k0,30,0;", 3, 2);
        bad("k0,0,7;", 5, 2);
        bad("k3x", 1, 2);
        bad(HEAD + "d0,1,1;", 8, 2);
        bad(HEAD + "d366,1,1;", 8, 2);
        bad(HEAD + "n0,1,1;", 8, 2);
        bad(HEAD + "n366,1,1;", 8, 2);
        bad(HEAD + "b100,1,1;", 8, 2);
        bad(HEAD + "f100,1,1;", 8, 2);
        bad(HEAD + "d1,0,1;", 10, 2);
        bad(HEAD + "d1,6,1;", 10, 2);
        bad(HEAD + "d1,1,0;", 12, 2);
        bad(HEAD + "d1,1,7;", 12, 2);
        bad(HEAD + "z0,1,1;", 8, 2);
        bad(HEAD + "d1,1,1;z1,0,1;", 15, 2);
        bad(HEAD + "d1,1,1;z0,1,1;", 17, 2);
        bad(HEAD + "d1,1,1;d1,1,1;z1,1,1;", 24, 2);
        bad(HEAD + "d1,1,1;d1,1,1;z1,1x", 24, 2);
        bad(HEAD + "d1,1,1;d1,1,1;z1,0,0;", 26, 2);
        bad(HEAD + "d1,1,1;d1,1,1;z1,0,7;", 26, 2);
        bad(HEAD + "p9,1;", 8, 2);
        bad(HEAD + "p151,1;", 8, 2);
        bad(HEAD + "p10,0;", 11, 2);
        bad(HEAD + "p10,10;", 11, 2);
        bad(HEAD + "p10,1;c1,0;", 14, 2);
        bad(HEAD + "p10,1;c6,0;", 14, 2);
        bad(HEAD + "p10,1;c2,3;", 16, 2);
    }

    private static void tooMany() {
        String twelve = HEAD + "b1,1,1;".repeat(12);
        bad(twelve + "b", 91, 3);
        bad(twelve + "f", 91, 3);
        bad(twelve + "n1,1,1;", 91, 3);
        bad(twelve + "d9999", 91, 3);
        bad(HEAD + "b1,1,1;b2,1,1;" + "z0,1,1;".repeat(4) + "z", 49, 3);
        bad(HEAD + "b1,1,1;b2,1,1;" + "z0,1,1;".repeat(4) + "b", 49, 1);
    }

    private static void whatStays() {
        FeastRota x = Check.of("k1,2,3;d5,4,3;d6,4,3;z0,1,2;p20,3;c4,1;");
        x.law(1, 7);
        x.away(2, 5, 9);
        CHECK.due("refused text", Check.tell(x, "k0,0,0;d1,1,1;p1"), -1000115);
        CHECK.due("fault", x.fault(), 2);
        CHECK.due("feasts stay", x.count(0), 2);
        CHECK.due("seasons stay", x.count(1), 1);
        CHECK.due("choirs stay", x.count(2), 4);
        CHECK.due("acts stay", x.count(3), 2);
        CHECK.due("N stays", x.feast(0, 1), 5);
        CHECK.due("good text", Check.tell(x, HEAD + TAIL), 0);
        CHECK.due("fault is still the latest", x.fault(), 2);
        CHECK.due("seasons anew", x.count(1), 0);
        CHECK.due("choirs anew", x.count(2), 2);
        CHECK.due("acts anew", x.count(3), 0);
        CHECK.due("undo", x.undo(), Check.STATE);
        CHECK.due("another fault", Check.tell(x, "k0;"), -1000102);
        CHECK.due("its number", x.fault(), 1);
        awayEndsWithABook();
    }

    private static void fullTape() {
        String text = HEAD + "d001,1,1;".repeat(10) + "d01,1,1;".repeat(2) + "z00,01,1;".repeat(4) + TAIL;
        CHECK.due("bytes", text.length(), 160);
        good(text, 12);
        bad(text.substring(0, 159) + "0", 160, 1);
        FeastRota x = new FeastRota();
        Check.feed(x, text);
        CHECK.due("one more", x.feed(';'), Check.FULL);
        CHECK.due("it is not there", x.book(), 12);
    }

    private static void bytesOfAnEarlierTape() {
        FeastRota x = Check.of(HEAD + "d1,1,1;" + TAIL);
        CHECK.due("an early end", Check.tell(x, HEAD + "d1,1,1;p10,1;c2,0"), -1000124);
        CHECK.due("an early end", Check.tell(x, "k0"), -1000102);
        CHECK.due("an early end", Check.tell(x, ""), -1000100);
    }

    private static void awayEndsWithABook() {
        FeastRota x = Check.of(HEAD + TAIL);
        x.away(0, 0, 366);
        CHECK.due("away", x.sings(1, 2, 0), 1);
        Check.tell(x, HEAD + TAIL);
        CHECK.due("no choir is away", x.sings(1, 2, 0), 0);
        CHECK.due("no choir is away, day 1", x.sings(1, 1, 0), 0);
    }
}
