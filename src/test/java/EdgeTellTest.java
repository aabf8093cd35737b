/**
 * Boundary cases of the tape and of the book: Terms 1 and promises 1 to 4. Each test stands behind the sentence of the
 * document that it holds to.
 */
public final class EdgeTellTest {
    private static final Check CHECK = new Check();
    private static final String HEAD = "k0,0,0;";
    private static final String TAIL = "p10,1;c2,0;";
    private static final String FEAST = "d1,1,1;";
    private static final String TWO = HEAD + FEAST + "d2,1,1;";
    private static final String SEASON = "z0,1,1;";
    private static final String SORTS = "bfnd";

    public static void main(String[] args) {
        noBookAtFirst();
        bytesFrom0To255();
        tapeHas160Bytes();
        badAheadOfFull();
        emptyTape();
        endOfEachBeginning();
        endOfAFullTape();
        threeFigures();
        fourFigures();
        fourFiguresWhereNoNumberStands();
        eachLetterByItself();
        nothingElseAtTheStart();
        nothingElseForANumber();
        nothingElseForASign();
        nothingElseBetweenTheParts();
        nothingBehindTheChoirs();
        headNumbers();
        numberOfAMovingFeast();
        numberOfADatedFeast();
        rankOfAFeast();
        colourOfAFeast();
        twelveFeasts();
        seasonsOfFeastsThatWereTold();
        fromIsNotTo();
        colourOfASeason();
        fourSeasons();
        psalter();
        choirs();
        noFeastAndNoSeason();
        orderOfTheParts();
        firstTokenOfSeveral();
        placeIsTheFirstByte();
        leastOfOneToken();
        bookStandsInPlaceOfTheOneBefore();
        noChoirIsAwayInANewBook();
        noActOfTheBookBefore();
        imagesStay();
        refusedTextLeavesAllButTheTape();
        tapeIsEmptyThen();
        faultBeforeOne();
        latestFault();
        faultBehindAGoodBook();
        CHECK.end();
    }

    private static void good(String text, int feasts) {
        FeastRota x = new FeastRota();
        CHECK.due("book of " + text, Check.tell(x, text), feasts);
        CHECK.due("no fault of " + text, x.fault(), 0);
    }

    private static void bad(String text, int place, int fault) {
        FeastRota x = new FeastRota();
        CHECK.due("book of " + text, Check.tell(x, text), -1000100 - place);
        CHECK.due("fault of " + text, x.fault(), fault);
    }

    /** The text behind start, with number in it, is read if it is from least to greatest, else it has fault 2. */
    private static void numbers(String start, String end, int least, int greatest, int feasts) {
        for (int v = 0; v <= 999; v++) {
            String text = start + v + end;
            if (least <= v && v <= greatest) {
                good(text, feasts);
            } else {
                bad(text, start.length(), 2);
            }
        }
    }

    /** "No BOOK." "(none at first)" */
    private static void noBookAtFirst() {
        FeastRota x = new FeastRota();
        CHECK.due("no book", x.year(1, 0), Check.STATE);
        for (int what = 0; what <= 4; what++) {
            CHECK.due("nothing is there: " + what, x.count(what), 0);
        }
    }

    /** "A byte (0 to 255) comes behind the tape: how many it has. BAD" */
    private static void bytesFrom0To255() {
        FeastRota x = new FeastRota();
        CHECK.due("0", x.feed(0), 1);
        CHECK.due("255", x.feed(255), 2);
        for (int b : new int[] {-1, 256, 256 + 'k', 'k' - 256, Integer.MIN_VALUE, Integer.MAX_VALUE}) {
            CHECK.due("no byte " + b, x.feed(b), Check.BAD);
        }
        CHECK.due("bytes", x.count(4), 2);
    }

    /** "THE TAPE has at most 160 bytes" "FULL" */
    private static void tapeHas160Bytes() {
        FeastRota x = new FeastRota();
        for (int i = 1; i <= 160; i++) {
            CHECK.due("byte " + i, x.feed('k'), i);
        }
        CHECK.due("byte 161", x.feed('k'), Check.FULL);
        CHECK.due("byte 161 once more", x.feed('k'), Check.FULL);
        CHECK.due("bytes", x.count(4), 160);
        FeastRota y = new FeastRota();
        Check.feed(y, fullTape());
        CHECK.due("one byte too many", y.feed('k'), Check.FULL);
        CHECK.due("it does not come behind the tape", y.book(), 12);
    }

    private static String fullTape() {
        return HEAD + "d001,1,1;".repeat(10) + "d01,1,1;".repeat(2) + "z00,01,1;".repeat(4) + TAIL;
    }

    /** "Refusals are answers, the first of these that fits: BAD .. FULL" */
    private static void badAheadOfFull() {
        FeastRota x = new FeastRota();
        Check.feed(x, fullTape());
        CHECK.due("no byte, and no room", x.feed(256), Check.BAD);
        CHECK.due("no byte, and no room", x.feed(-1), Check.BAD);
    }

    /** "the end: how many bytes there are", of a tape without any. */
    private static void emptyTape() {
        bad("", 0, 1);
        FeastRota x = Check.of(TWO + TAIL);
        CHECK.due("empty, with a book", x.book(), -1000100);
        CHECK.due("the book stays", x.count(0), 2);
    }

    /** "the end: how many bytes there are", of each text that is broken off. */
    private static void endOfEachBeginning() {
        String text = TWO + SEASON + TAIL;
        for (int length = 0; length < text.length(); length++) {
            String start = text.substring(0, length);
            // of 10 psalms a 1 is left, which is a NUMBER that is not as told
            boolean cutNumber = start.endsWith("p1");
            bad(start, cutNumber ? length - 1 : length, cutNumber ? 2 : 1);
        }
        good(text, 2);
    }

    /** "the end: how many bytes there are", of a full tape. */
    private static void endOfAFullTape() {
        String text = fullTape();
        CHECK.due("bytes", text.length(), 160);
        good(text, 12);
        bad(text.substring(0, 159) + "0", 160, 1);
        bad(HEAD + "p010,1;" + "c005,002" + ";".repeat(138), 23, 1);
    }

    /** "NUMBERS (figures, 3 at most)" */
    private static void threeFigures() {
        good("k000,000,000;b000,001,001;f099,005,006;d001,001,001;d365,005,006;z000,001,001;z003,000,006;p010,001;c002,000;", 4);
        good("k02,29,06;p150,09;c05,02;", 0);
    }

    /** "a run of four figures or more, at its first" */
    private static void fourFigures() {
        String text = "k0,0,0;d1,1,1;d2,1,1;z0,1,1;p10,1;c2,0;";
        for (int at = 0; at < text.length(); at++) {
            boolean startsNumber = Character.isDigit(text.charAt(at)) && !Character.isDigit(text.charAt(at - 1));
            if (startsNumber) {
                int zeros = Character.isDigit(text.charAt(at + 1)) ? 2 : 3;
                bad(text.substring(0, at) + "0".repeat(zeros) + text.substring(at), at, 1);
                bad(text.substring(0, at) + "0".repeat(99) + text.substring(at), at, 1);
                good(text.substring(0, at) + "0".repeat(zeros - 1) + text.substring(at), 2);
            }
        }
        bad("k" + "1".repeat(159), 1, 1);
    }

    /** "a run of four figures or more, at its first", where not even a NUMBER can stand. */
    private static void fourFiguresWhereNoNumberStands() {
        bad("0000", 0, 1);
        bad("1".repeat(160), 0, 1);
        bad(HEAD + "12345", 7, 1);
        bad(HEAD + TAIL + "0000", 18, 1);
    }

    /** "letters a to z (each by itself)" */
    private static void eachLetterByItself() {
        bad("kk0,0,0;", 1, 1);
        for (int i = 0; i < 4; i++) {
            bad(HEAD + SORTS.charAt(i) + SORTS.charAt(i) + "1,1,1;", 8, 1);
        }
        bad(TWO + "zz0,1,1;", 22, 1);
        bad(HEAD + "pp10,1;", 8, 1);
        bad(HEAD + "p10,1;cc2,0;", 14, 1);
    }

    /** "SIGNS , and ; nothing else": what is no head's letter, as the first byte. */
    private static void nothingElseAtTheStart() {
        for (int b = 0; b <= 255; b++) {
            String text = (char) b + (HEAD + TAIL).substring(1);
            if (b == 'k') {
                good(text, 0);
            } else {
                bad(text, 0, 1);
            }
        }
    }

    /** The same where a NUMBER is due. */
    private static void nothingElseForANumber() {
        for (int b = 0; b <= 255; b++) {
            String text = "k" + (char) b + ",0,0;" + TAIL;
            if ('0' <= b && b <= '2') {
                good(text, 0);
            } else {
                bad(text, 1, '3' <= b && b <= '9' ? 2 : 1);
            }
        }
    }

    /** The same where a SIGN is due, of each that a book has. */
    private static void nothingElseForASign() {
        String text = TWO + SEASON + TAIL;
        for (int at = 0; at < text.length(); at++) {
            char due = text.charAt(at);
            if (due == ',' || due == ';') {
                for (int b = 0; b <= 255; b++) {
                    if (b != due && !('0' <= b && b <= '9')) {
                        bad(text.substring(0, at) + (char) b + text.substring(at + 1), at, 1);
                    }
                }
            }
        }
    }

    /** The same where a feast, a season, the psalter or the choirs begin. */
    private static void nothingElseBetweenTheParts() {
        for (int b = 0; b <= 255; b++) {
            if ((SORTS + "zp").indexOf(b) < 0) {
                bad(TWO + (char) b + "0,1,1;" + TAIL, 21, 1);
            }
            if (b != 'z' && b != 'p') {
                bad(TWO + SEASON + (char) b + "0,1,1;" + TAIL, 28, 1);
            }
            if (b != 'c') {
                bad(HEAD + "p10,1;" + (char) b + "2,0;", 13, 1);
            }
        }
    }

    /** "book: head { feast } { season } psalter choirs": nothing stands behind. */
    private static void nothingBehindTheChoirs() {
        for (int b = 0; b <= 255; b++) {
            bad(HEAD + TAIL + (char) b, 18, 1);
        }
        bad(HEAD + TAIL + HEAD + TAIL, 18, 1);
    }

    /** "head: k LEAP , MOON , FIRST ; (0 to 2; 0 to 29; 0 to 6)" */
    private static void headNumbers() {
        numbers("k", ",0,0;" + TAIL, 0, 2, 0);
        numbers("k0,", ",0;" + TAIL, 0, 29, 0);
        numbers("k0,0,", ";" + TAIL, 0, 6, 0);
        FeastRota x = Check.of("k2,29,6;" + TAIL);
        CHECK.due("LEAP", x.law(0, 0), 2);
        CHECK.due("MOON", x.law(1, 0), 29);
        CHECK.due("FIRST", x.law(2, 0), 6);
    }

    /** "b, f: N 0 to 99" */
    private static void numberOfAMovingFeast() {
        numbers(HEAD + "b", ",1,1;" + TAIL, 0, 99, 1);
        numbers(HEAD + "f", ",1,1;" + TAIL, 0, 99, 1);
        FeastRota x = Check.of(HEAD + "b99,1,1;f0,1,1;" + TAIL);
        CHECK.due("the greatest", x.feast(0, 1), 99);
        CHECK.due("the least", x.feast(1, 1), 0);
    }

    /** "d, n: N 1 to 365" */
    private static void numberOfADatedFeast() {
        numbers(HEAD + "d", ",1,1;" + TAIL, 1, 365, 1);
        numbers(HEAD + "n", ",1,1;" + TAIL, 1, 365, 1);
        FeastRota x = Check.of(HEAD + "d365,1,1;n1,1,1;" + TAIL);
        CHECK.due("the greatest", x.feast(0, 1), 365);
        CHECK.due("the least", x.feast(1, 1), 1);
    }

    /** "RANK 1 to 5" */
    private static void rankOfAFeast() {
        for (int i = 0; i < 4; i++) {
            numbers(HEAD + SORTS.charAt(i) + "1,", ",1;" + TAIL, 1, 5, 1);
        }
    }

    /** "COLOUR 1 to 6" of a feast. */
    private static void colourOfAFeast() {
        for (int i = 0; i < 4; i++) {
            numbers(HEAD + SORTS.charAt(i) + "1,1,", ";" + TAIL, 1, 6, 1);
        }
    }

    /** "FEASTS 0 .. 11, 12 at most" "3 a feast .. more than there is room for (its letter)" */
    private static void twelveFeasts() {
        String eleven = HEAD + FEAST.repeat(11);
        for (int i = 0; i < 4; i++) {
            char sort = SORTS.charAt(i);
            good(eleven + sort + "1,1,1;" + TAIL, 12);
            bad(eleven + FEAST + sort + "1,1,1;" + TAIL, 91, 3);
            bad(eleven + FEAST + sort, 91, 3);
            bad(eleven + FEAST + sort + "9999", 91, 3);
        }
    }

    /** "season: z FROM , TO , COLOUR ; (FEASTS that were told" */
    private static void seasonsOfFeastsThatWereTold() {
        for (int feasts = 0; feasts <= 12; feasts++) {
            String start = HEAD + FEAST.repeat(feasts) + "z";
            for (int v = 0; v <= 999; v++) {
                int other = v == 0 ? 1 : 0;
                if (v >= feasts) {
                    bad(start + v + "," + other + ",1;" + TAIL, start.length(), 2);
                    bad(start + other + "," + v + ",1;" + TAIL, start.length() + (feasts > other ? 2 : 0), 2);
                } else if (feasts >= 2) {
                    good(start + v + "," + other + ",1;" + TAIL, feasts);
                    good(start + other + "," + v + ",1;" + TAIL, feasts);
                }
            }
        }
    }

    /** "FROM not TO" */
    private static void fromIsNotTo() {
        bad(HEAD + FEAST + "z0,0,1;" + TAIL, 17, 2);
        bad(TWO + "z0,0,1;" + TAIL, 24, 2);
        bad(TWO + "z1,1,1;" + TAIL, 24, 2);
        bad(TWO + "z01,001,1;" + TAIL, 25, 2);
        good(TWO + "z1,0,1;z0,1,1;" + TAIL, 2);
    }

    /** "1 to 6" of a season. */
    private static void colourOfASeason() {
        numbers(TWO + "z0,1,", ";" + TAIL, 1, 6, 2);
    }

    /** "SEASONS 0 .. 3, 4 at most" "3 .. a season more than there is room for (its letter)" */
    private static void fourSeasons() {
        good(TWO + SEASON.repeat(4) + TAIL, 2);
        bad(TWO + SEASON.repeat(5) + TAIL, 49, 3);
        bad(TWO + SEASON.repeat(4) + "z", 49, 3);
        bad(TWO + SEASON.repeat(4) + "z9999", 49, 3);
        CHECK.due("four", Check.of(TWO + SEASON.repeat(4) + TAIL).count(1), 4);
    }

    /** "psalter: p PSALMS , EACH ; (10 to 150; 1 to 9)" */
    private static void psalter() {
        numbers(HEAD + "p", ",1;c2,0;", 10, 150, 0);
        numbers(HEAD + "p10,", ";c2,0;", 1, 9, 0);
        FeastRota x = Check.of(HEAD + "p150,9;c2,0;");
        CHECK.due("PSALMS", x.law(3, 10), 150);
        CHECK.due("EACH", x.law(4, 1), 9);
    }

    /** "choirs: c CHOIRS , RULE ; (2 to 5; 0 to 2)" */
    private static void choirs() {
        numbers(HEAD + "p10,1;c", ",0;", 2, 5, 0);
        numbers(HEAD + "p10,1;c2,", ";", 0, 2, 0);
        FeastRota x = Check.of(HEAD + "p10,1;c5,2;");
        CHECK.due("CHOIRS", x.count(2), 5);
        CHECK.due("RULE", x.law(5, 0), 2);
    }

    /** "{ feast } { season }": there may be none. */
    private static void noFeastAndNoSeason() {
        good(HEAD + TAIL, 0);
        good(HEAD + FEAST + TAIL, 1);
        FeastRota x = Check.of(HEAD + TAIL);
        CHECK.due("no feast", x.count(0), 0);
        CHECK.due("no season", x.count(1), 0);
        CHECK.due("a year without feasts", x.year(1, 5), 0);
    }

    /** "book: head { feast } { season } psalter choirs": each in its place. */
    private static void orderOfTheParts() {
        bad(TAIL, 0, 1);
        bad(FEAST + TAIL, 0, 1);
        bad(HEAD + HEAD + TAIL, 7, 1);
        bad(HEAD + "c2,0;", 7, 1);
        bad(HEAD + "c2,0;p10,1;", 7, 1);
        bad(HEAD + "p10,1;p10,1;c2,0;", 13, 1);
        bad(HEAD + "p10,1;" + FEAST + "c2,0;", 13, 1);
        bad(TWO + "p10,1;" + SEASON + "c2,0;", 27, 1);
        for (int i = 0; i < 4; i++) {
            bad(TWO + SEASON + SORTS.charAt(i) + "1,1,1;" + TAIL, 28, 1);
        }
    }

    /** "the first TOKEN that has one" */
    private static void firstTokenOfSeveral() {
        bad("k3,30,7;", 1, 2);
        bad("k3;", 1, 2);
        bad("k3x", 1, 2);
        bad("k0;30", 2, 1);
        bad("k0,30,7;", 3, 2);
        bad("k0,0,7;x", 5, 2);
        bad(HEAD + "d0,0,0;", 8, 2);
        bad(HEAD + "d1,0,0;", 10, 2);
        bad(TWO + "z2,2,0;", 22, 2);
        bad(TWO + "z1,1x", 24, 2);
        bad(HEAD + FEAST.repeat(12) + "d0,0,0;", 91, 3);
        bad(HEAD + FEAST.repeat(11) + "d0,1,1;" + FEAST, 85, 2);
    }

    /** "(its first byte)" */
    private static void placeIsTheFirstByte() {
        bad("k999,0,0;", 1, 2);
        bad("k0,030,0;", 3, 2);
        bad(HEAD + "d366,1,1;", 8, 2);
        bad(HEAD + "d1,010,1;", 10, 2);
        bad(HEAD + "p151,1;", 8, 2);
        bad(HEAD + "p150,123", 12, 2);
    }

    /** "of one TOKEN the least" */
    private static void leastOfOneToken() {
        // too many figures, and too great a NUMBER
        bad("k9999,0,0;", 1, 1);
        bad(HEAD + "p1510,1;", 8, 1);
        // it cannot stand behind a season, and there is no room for it
        bad(HEAD + FEAST.repeat(12) + SEASON + FEAST, 98, 1);
        bad(HEAD + "d1,1,1;".repeat(12) + TAIL + "d", 102, 1);
        bad(TWO + SEASON.repeat(4) + "p10,1;z", 55, 1);
    }

    /** "A BOOK that is read stands in place of the one before" */
    private static void bookStandsInPlaceOfTheOneBefore() {
        FeastRota x = Check.of("k2,3,4;" + "b5,5,5;".repeat(3) + "z0,1,1;z1,2,2;p150,9;c5,2;");
        CHECK.due("a lesser book", Check.tell(x, HEAD + FEAST + TAIL), 1);
        CHECK.due("feasts", x.count(0), 1);
        CHECK.due("seasons", x.count(1), 0);
        CHECK.due("choirs", x.count(2), 2);
        int[] marks = {3, 1, 1, 1};
        for (int what = 0; what <= 3; what++) {
            CHECK.due("feast 0", x.feast(0, what), marks[what]);
        }
        CHECK.due("no feast 1", x.feast(1, 0), Check.BAD);
        CHECK.due("no choir 2", x.duties(2, 1, 1), Check.BAD);
        int[] laws = {0, 0, 0, 10, 1, 0};
        for (int which = 0; which <= 5; which++) {
            CHECK.due("law " + which, x.law(which, laws[which]), laws[which]);
        }
        CHECK.due("a greater book", Check.tell(x, HEAD + FEAST.repeat(12) + "p10,1;c5,0;"), 12);
        CHECK.due("feast 11", x.feast(11, 0), 3);
    }

    /** "no CHOIR is away" */
    private static void noChoirIsAwayInANewBook() {
        FeastRota x = Check.of("k0,0,1;p10,1;c5,0;");
        for (int c = 0; c < 5; c++) {
            x.away(c, 0, 366);
        }
        CHECK.due("all are away", x.year(1, 8), x.year(1, 7));
        Check.tell(x, "k0,0,1;p10,1;c5,0;");
        CHECK.due("none is", x.year(1, 8), 0);
        for (int c = 0; c < 5; c++) {
            CHECK.due("choir " + c, x.sings(1, c + 1, 0), c);
        }
    }

    /** "no ACT can be undone" */
    private static void noActOfTheBookBefore() {
        FeastRota x = Check.of(HEAD + FEAST + TAIL);
        x.law(1, 5);
        x.add(3, 7, 1, 1);
        CHECK.due("two acts", x.count(3), 2);
        Check.tell(x, HEAD + FEAST + TAIL);
        CHECK.due("no act", x.count(3), 0);
        CHECK.due("undo", x.undo(), Check.STATE);
        CHECK.due("the book stays", x.count(0), 1);
    }

    /** "IMAGES stay." */
    private static void imagesStay() {
        FeastRota x = Check.of(TWO + TAIL);
        x.image(0);
        x.add(3, 7, 1, 1);
        x.image(1);
        Check.tell(x, HEAD + TAIL);
        CHECK.due("image 0 is there", x.restore(0), 1);
        CHECK.due("its feasts", x.count(0), 2);
        CHECK.due("image 1 is there", x.restore(1), 1);
        CHECK.due("its feasts", x.count(0), 3);
    }

    /** "all but the tape, that is empty then, and what fault() tells stays" */
    private static void refusedTextLeavesAllButTheTape() {
        FeastRota x = Check.of("k1,2,3;d5,4,3;d6,4,2;z0,1,2;p20,3;c4,1;");
        x.image(1);
        x.away(2, 0, 366);
        x.law(3, 30);
        CHECK.due("faulty at its last byte", Check.tell(x, "k0,0,0;f1,1,1;p10,1;c2,0,"), -1000124);
        int[] counts = {2, 1, 4, 2, 0};
        for (int what = 0; what <= 4; what++) {
            CHECK.due("count " + what, x.count(what), counts[what]);
        }
        int[] marks = {3, 5, 4, 3};
        for (int what = 0; what <= 3; what++) {
            CHECK.due("feast 0", x.feast(0, what), marks[what]);
        }
        CHECK.due("still away", x.duties(2, 1, 365), 0);
        CHECK.due("psalms", x.law(3, 30), 30);
        CHECK.due("undo", x.undo(), 2);
        CHECK.due("undo", x.undo(), 1);
        CHECK.due("undo", x.undo(), 0);
        CHECK.due("back", x.duties(2, 1, 365) > 0 ? 1 : 0, 1);
        CHECK.due("psalms as told", x.law(3, 20), 20);
        CHECK.due("the other image", x.restore(0), Check.STATE);
        CHECK.due("the image", x.restore(1), 1);
    }

    /** "The tape, empty then, is read" */
    private static void tapeIsEmptyThen() {
        FeastRota x = new FeastRota();
        CHECK.due("good", Check.tell(x, TWO + TAIL), 2);
        CHECK.due("bytes", x.count(4), 0);
        CHECK.due("what was there is not read again", x.book(), -1000100);
        CHECK.due("faulty", Check.tell(x, TWO + "p10,1;c2,0"), -1000131);
        CHECK.due("bytes", x.count(4), 0);
        CHECK.due("nor goes the next text on behind it", Check.tell(x, ";"), -1000100);
        CHECK.due("a byte", x.feed('k'), 1);
    }

    /** "The number of the latest FAULT; 0 before one." */
    private static void faultBeforeOne() {
        FeastRota x = new FeastRota();
        CHECK.due("new", x.fault(), 0);
        Check.feed(x, "???");
        CHECK.due("not read yet", x.fault(), 0);
        FeastRota y = Check.of(TWO + TAIL);
        y.feed(256);
        y.law(9, 9);
        y.restore(0);
        CHECK.due("other refusals are none", y.fault(), 0);
    }

    /** "The number of the latest FAULT" */
    private static void latestFault() {
        FeastRota x = new FeastRota();
        Check.tell(x, HEAD + FEAST.repeat(13));
        CHECK.due("3", x.fault(), 3);
        Check.tell(x, "k3");
        CHECK.due("2", x.fault(), 2);
        x.book();
        CHECK.due("1", x.fault(), 1);
        Check.tell(x, "k3");
        CHECK.due("2 again", x.fault(), 2);
    }

    /** "The number of the latest FAULT": a good text has none, and the latest stays. */
    private static void faultBehindAGoodBook() {
        FeastRota x = new FeastRota();
        Check.tell(x, "k3");
        Check.tell(x, HEAD + TAIL);
        CHECK.due("still 2", x.fault(), 2);
    }
}
