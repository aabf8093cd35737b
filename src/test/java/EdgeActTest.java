/**
 * Boundary cases of what is done: ACTS, promises 5 to 10 and 25 to 27. Each test stands behind the sentence of the
 * document that it holds to.
 */
public final class EdgeActTest {
    private static final Check CHECK = new Check();
    private static final String TEXT = "k1,2,3;b0,1,1;f99,2,2;n1,3,3;d365,4,4;z0,1,5;p20,3;c3,1;";
    private static final int[] FAR = {Integer.MIN_VALUE, Integer.MAX_VALUE};
    private static final int[] LEAST_LAW = {0, 0, 0, 10, 1, 0};
    private static final int[] GREATEST_LAW = {2, 29, 6, 150, 9, 2};

    public static void main(String[] args) {
        noActInANewObject();
        noActInANewBook();
        noActWhenAllAreUndone();
        undoCountsDownToZero();
        latestFirst();
        eachMarkIsUndone();
        eachLawIsUndone();
        eachChoirIsBack();
        onlyFeastIsUndone();
        sixteenActsAreKept();
        seventeenActs();
        oldestIsForgottenWhateverItWas();
        oldestOfMixedActsIsForgotten();
        manyMoreThanSixteen();
        actsThatChangeNothing();
        refusalsAreNoActs();
        alterWithoutABook();
        alterNoSuchFeast();
        alterNoSuchMark();
        alterKind();
        alterMovingNumber();
        alterDatedNumber();
        alterRank();
        alterColour();
        kindThatCannotHaveTheNumber();
        addWithoutABook();
        addStateAheadOfBad();
        addBadNumbers();
        addNumberByKind();
        addTwelve();
        addBadAheadOfFull();
        addOnceMoreBehindUndo();
        lawWithoutABook();
        lawStateAheadOfBad();
        lawNoSuchLaw();
        lawLimits();
        awayWithoutABook();
        awayNoSuchChoir();
        awayDays();
        awayAndUndo();
        feastNoSuchFeast();
        feastNoSuchMark();
        imageNumbers();
        imageWithoutABook();
        imageIsKeptAnew();
        restoreNumbers();
        restoreWithoutAnImage();
        restoreBringsAwayBack();
        restoreBringsDaysOfAwayBack();
        noActBehindRestore();
        imageStaysAsItWas();
        countNumbers();
        countWithoutABook();
        CHECK.end();
    }

    /** "STATE: none." */
    private static void noActInANewObject() {
        FeastRota x = new FeastRota();
        CHECK.due("undo", x.undo(), Check.STATE);
        Check.tell(x, "k3");
        CHECK.due("undo behind a faulty text", x.undo(), Check.STATE);
    }

    /** "STATE: none.", as a text is no ACT. */
    private static void noActInANewBook() {
        FeastRota x = Check.of(TEXT);
        CHECK.due("undo", x.undo(), Check.STATE);
        CHECK.due("the book stands", x.count(0), 4);
    }

    /** "STATE: none.", as all are undone. */
    private static void noActWhenAllAreUndone() {
        FeastRota x = Check.of(TEXT);
        x.law(1, 5);
        x.undo();
        CHECK.due("undo", x.undo(), Check.STATE);
        CHECK.due("undo once more", x.undo(), Check.STATE);
        CHECK.due("acts", x.count(3), 0);
        CHECK.due("MOON", x.law(1, 2), 2);
    }

    /** "The latest ACT is undone: how many can be undone yet." */
    private static void undoCountsDownToZero() {
        FeastRota x = Check.of(TEXT);
        x.law(1, 5);
        x.law(1, 6);
        CHECK.due("one is left", x.undo(), 1);
        CHECK.due("none is left", x.undo(), 0);
    }

    /** "each can be undone, the latest first" */
    private static void latestFirst() {
        FeastRota x = Check.of(TEXT);
        x.alter(0, 2, 5);
        x.alter(0, 2, 4);
        x.alter(0, 3, 6);
        x.undo();
        CHECK.due("colour", x.feast(0, 3), 1);
        CHECK.due("rank", x.feast(0, 2), 4);
        x.undo();
        CHECK.due("rank", x.feast(0, 2), 5);
        x.undo();
        CHECK.due("rank", x.feast(0, 2), 1);
    }

    /** "N, RANK, COLOUR, KIND of a FEAST is told anew" can be undone, of the first FEAST and of the twelfth. */
    private static void eachMarkIsUndone() {
        FeastRota x = Check.of("k1,2,3;" + "n1,1,1;".repeat(12) + "p20,3;c3,1;");
        int[] marks = {2, 1, 1, 1};
        for (int f = 0; f < 12; f++) {
            for (int which = 0; which <= 3; which++) {
                CHECK.due("alter", x.alter(f, which, 3), marks[which]);
                CHECK.due("is another", x.feast(f, which), 3);
                CHECK.due("undo", x.undo(), 0);
                CHECK.due("feast " + f + " is as it was, " + which, x.feast(f, which), marks[which]);
            }
        }
    }

    /** "LEAP, MOON, FIRST, PSALMS, EACH, RULE told anew" can be undone. */
    private static void eachLawIsUndone() {
        int[] laws = {1, 2, 3, 20, 3, 1};
        for (int which = 0; which <= 5; which++) {
            FeastRota x = Check.of(TEXT);
            x.law(which, GREATEST_LAW[which]);
            CHECK.due("undo", x.undo(), 0);
            CHECK.due("law " + which + " is as it was", x.law(which, laws[which]), laws[which]);
        }
    }

    /** "a CHOIR is AWAY" can be undone, of the first CHOIR and of the fifth. */
    private static void eachChoirIsBack() {
        FeastRota x = Check.of("k0,0,1;p20,3;c5,0;");
        for (int c = 0; c < 5; c++) {
            x.away(c, 0, 366);
            CHECK.due("away", x.duties(c, 1, 365), 0);
            CHECK.due("undo", x.undo(), 0);
            CHECK.due("choir " + c + " is back", x.sings(1, c + 1, 0), c);
        }
    }

    /** "a FEAST more" can be undone, so that there is none. */
    private static void onlyFeastIsUndone() {
        FeastRota x = Check.of("k1,2,3;p20,3;c3,1;");
        x.add(3, 7, 1, 1);
        CHECK.due("undo", x.undo(), 0);
        CHECK.due("feasts", x.count(0), 0);
        CHECK.due("feast 0", x.feast(0, 0), Check.BAD);
    }

    private static FeastRota withMoons(int acts) {
        FeastRota x = Check.of(TEXT);
        for (int i = 1; i <= acts; i++) {
            CHECK.due("MOON was", x.law(1, i), i == 1 ? 2 : i - 1);
        }
        return x;
    }

    private static void undoAll(FeastRota x, int acts) {
        for (int i = acts - 1; i >= 0; i--) {
            CHECK.due("undo", x.undo(), i);
        }
        CHECK.due("none is left", x.undo(), Check.STATE);
    }

    /** "16 at most are kept" */
    private static void sixteenActsAreKept() {
        FeastRota x = withMoons(16);
        CHECK.due("acts", x.count(3), 16);
        undoAll(x, 16);
        CHECK.due("MOON as told", x.law(1, 0), 2);
    }

    /** "of more the oldest is forgotten" */
    private static void seventeenActs() {
        FeastRota x = withMoons(17);
        CHECK.due("acts", x.count(3), 16);
        undoAll(x, 16);
        CHECK.due("the first stays", x.law(1, 0), 1);
    }

    private static void oneAct(FeastRota x, int sort) {
        switch (sort) {
            case 0: x.alter(3, 3, 6); break;
            case 1: x.add(3, 7, 1, 1); break;
            case 2: x.law(3, 150); break;
            default: x.away(0, 0, 366); break;
        }
    }

    private static int trace(FeastRota x, int sort) {
        switch (sort) {
            case 0: return x.feast(3, 3) == 6 ? 1 : 0;
            case 1: return x.count(0) == 5 ? 1 : 0;
            case 2: return x.read(1, 150, 1) != Check.BAD ? 1 : 0;
            default: return x.duties(0, 1, 365) == 0 ? 1 : 0;
        }
    }

    /** "of more the oldest is forgotten": of each sort; and kept as the 16th. */
    private static void oldestIsForgottenWhateverItWas() {
        for (int sort = 0; sort <= 3; sort++) {
            for (int more = 15; more <= 16; more++) {
                FeastRota x = Check.of(TEXT);
                CHECK.due("not done yet " + sort, trace(x, sort), 0);
                oneAct(x, sort);
                CHECK.due("done " + sort, trace(x, sort), 1);
                for (int i = 0; i < more; i++) {
                    x.law(1, i);
                }
                undoAll(x, 16);
                CHECK.due("undone of " + more + " more, " + sort, trace(x, sort), more == 16 ? 1 : 0);
            }
        }
    }

    private static FeastRota withMixedActs(int acts) {
        FeastRota x = Check.of(TEXT);
        for (int i = 0; i < acts; i++) {
            switch (i % 5) {
                case 0: x.away(i % 3, 10 + i, 20 + 2 * i); break;
                case 1: x.alter(i % 4, 3, 1 + i % 6); break;
                case 2: x.away((i + 1) % 3, 40 - i, 60 - i); break;
                case 3: x.law(1, i); break;
                default: x.add(3, 100 + i, 4, 2); break;
            }
        }
        return x;
    }

    private static void sameBook(String name, FeastRota got, FeastRota want) {
        CHECK.due(name + ", feasts", got.count(0), want.count(0));
        for (int i = 0; i < 48; i++) {
            CHECK.due(name + ", feast", got.feast(i / 4, i % 4), want.feast(i / 4, i % 4));
        }
        CHECK.due(name + ", moon", got.year(1, 2), want.year(1, 2));
        for (int d = 5; d <= 75; d++) {
            CHECK.due(name + ", choir of day " + d, got.sings(1, d, 0), want.sings(1, d, 0));
        }
    }

    /** "of more the oldest is forgotten": the others, of all sorts, are undone one by one as they were done. */
    private static void oldestOfMixedActsIsForgotten() {
        for (int acts = 16; acts <= 23; acts++) {
            for (int undone = 0; undone <= 16; undone++) {
                FeastRota x = withMixedActs(acts);
                for (int i = 1; i <= undone; i++) {
                    CHECK.due("undo", x.undo(), 16 - i);
                }
                sameBook(acts + " acts, " + undone + " undone", x, withMixedActs(acts - undone));
            }
        }
    }

    /** "of more the oldest is forgotten", again and again. */
    private static void manyMoreThanSixteen() {
        FeastRota x = Check.of(TEXT);
        for (int i = 0; i < 100; i++) {
            x.law(1, i % 30);
            CHECK.due("acts", x.count(3), Math.min(i + 1, 16));
        }
        for (int i = 15; i >= 0; i--) {
            CHECK.due("undo", x.undo(), i);
        }
        // of the numbers 0 to 99 those behind 83 are taken back
        CHECK.due("MOON", x.law(1, 0), 83 % 30);
    }

    /** "also such by which nothing becomes another" "(all as they were, too)" */
    private static void actsThatChangeNothing() {
        FeastRota x = Check.of(TEXT);
        int[] marks = {3, 365, 4, 4};
        for (int which = 0; which <= 3; which++) {
            CHECK.due("alter as it was", x.alter(3, which, marks[which]), marks[which]);
            CHECK.due("an act", x.count(3), which + 1);
        }
        int[] laws = {1, 2, 3, 20, 3, 1};
        for (int which = 0; which <= 5; which++) {
            CHECK.due("law as it was", x.law(which, laws[which]), laws[which]);
            CHECK.due("an act", x.count(3), which + 5);
        }
        CHECK.due("away as at first", x.away(2, 1, 0), 1);
        CHECK.due("an act", x.count(3), 11);
        undoAll(x, 11);
    }

    /** "What is refused changes nothing." */
    private static void refusalsAreNoActs() {
        FeastRota x = Check.of(TEXT);
        x.alter(0, 2, 6);
        x.add(0, 0, 1, 7);
        x.law(0, 3);
        x.away(0, 1, 367);
        x.image(2);
        x.restore(0);
        CHECK.due("acts", x.count(3), 0);
        CHECK.due("undo", x.undo(), Check.STATE);
    }

    /** "BAD (a number is not as told; there is no such thing)": without a BOOK there is no FEAST. */
    private static void alterWithoutABook() {
        CHECK.due("alter", new FeastRota().alter(0, 2, 1), Check.BAD);
        CHECK.due("alter in a book without feasts", Check.of("k0,0,0;p10,1;c2,0;").alter(0, 2, 1), Check.BAD);
    }

    /** "of a FEAST": 0 to the last one. */
    private static void alterNoSuchFeast() {
        FeastRota x = Check.of(TEXT);
        CHECK.due("the first", x.alter(0, 2, 1), 1);
        CHECK.due("the last", x.alter(3, 2, 1), 4);
        CHECK.due("ahead of the first", x.alter(-1, 2, 1), Check.BAD);
        CHECK.due("behind the last", x.alter(4, 2, 1), Check.BAD);
        for (int far : FAR) {
            CHECK.due("far off", x.alter(far, 2, 1), Check.BAD);
        }
        x.add(3, 7, 1, 1);
        CHECK.due("one more", x.alter(4, 2, 1), 1);
        FeastRota full = Check.of("k1,2,3;" + "b1,1,1;".repeat(12) + "p20,3;c3,1;");
        CHECK.due("the twelfth", full.alter(11, 2, 5), 1);
        CHECK.due("the thirteenth", full.alter(12, 2, 5), Check.BAD);
    }

    /** "KIND (which = 0 ..), N (1 ..), RANK (2), COLOUR (3)" */
    private static void alterNoSuchMark() {
        FeastRota x = Check.of(TEXT);
        for (int which : new int[] {-1, 4, Integer.MIN_VALUE, Integer.MAX_VALUE}) {
            CHECK.due("which " + which, x.alter(2, which, 1), Check.BAD);
        }
    }

    private static void alters(FeastRota x, int feast, int which, int least, int greatest) {
        CHECK.due("below", x.alter(feast, which, least - 1), Check.BAD);
        CHECK.due("above", x.alter(feast, which, greatest + 1), Check.BAD);
        for (int far : FAR) {
            CHECK.due("far off", x.alter(feast, which, far), Check.BAD);
        }
        int was = x.feast(feast, which);
        CHECK.due("least", x.alter(feast, which, least), was);
        CHECK.due("greatest", x.alter(feast, which, greatest), least);
        CHECK.due("is the greatest", x.feast(feast, which), greatest);
        CHECK.due("two acts", x.count(3), 2);
    }

    /** "KIND (which = 0; 0 to 3)" */
    private static void alterKind() {
        alters(Check.of(TEXT), 2, 0, 0, 3);
    }

    /** "N (1; by its KIND: 0 to 99" */
    private static void alterMovingNumber() {
        alters(Check.of(TEXT), 0, 1, 0, 99);
        alters(Check.of(TEXT), 1, 1, 0, 99);
    }

    /** "or 1 to 365)" */
    private static void alterDatedNumber() {
        alters(Check.of(TEXT), 2, 1, 1, 365);
        alters(Check.of(TEXT), 3, 1, 1, 365);
    }

    /** "RANK (2)": 1 to 5. */
    private static void alterRank() {
        for (int f = 0; f < 4; f++) {
            alters(Check.of(TEXT), f, 2, 1, 5);
        }
    }

    /** "COLOUR (3)": 1 to 6. */
    private static void alterColour() {
        for (int f = 0; f < 4; f++) {
            alters(Check.of(TEXT), f, 3, 1, 6);
        }
    }

    /** "BAD (an N that the KIND told anew can not have, too)" */
    private static void kindThatCannotHaveTheNumber() {
        int[][] numbers = {{0, 0}, {0, 1}, {0, 99}, {1, 0}, {1, 99}, {2, 1}, {2, 99}, {2, 100}, {2, 365}, {3, 1}, {3, 99},
            {3, 100}, {3, 365}};
        for (int[] row : numbers) {
            for (int kind = 0; kind <= 3; kind++) {
                FeastRota x = Check.of("k1,2,3;p20,3;c3,1;");
                x.add(row[0], row[1], 1, 1);
                boolean can = kind < 2 ? row[1] <= 99 : row[1] >= 1;
                String call = "kind " + row[0] + " of N " + row[1] + " is " + kind;
                CHECK.due(call, x.alter(0, 0, kind), can ? row[0] : Check.BAD);
                CHECK.due(call + " then", x.feast(0, 0), can ? kind : row[0]);
                CHECK.due(call + ", N then", x.feast(0, 1), row[1]);
                CHECK.due(call + ", acts", x.count(3), can ? 2 : 1);
            }
        }
    }

    /** "STATE: no BOOK" of add. */
    private static void addWithoutABook() {
        FeastRota x = new FeastRota();
        CHECK.due("add", x.add(3, 7, 1, 1), Check.STATE);
        CHECK.due("feasts", x.count(0), 0);
        CHECK.due("acts", x.count(3), 0);
    }

    /** "(ahead of BAD)" of add. */
    private static void addStateAheadOfBad() {
        CHECK.due("add", new FeastRota().add(4, 0, 0, 0), Check.STATE);
    }

    /** "BAD" of add: KIND 0 to 3, RANK 1 to 5, COLOUR 1 to 6. */
    private static void addBadNumbers() {
        FeastRota x = Check.of("k1,2,3;p20,3;c3,1;");
        int[][] bad = {{-1, 1, 1, 1}, {4, 1, 1, 1}, {3, 1, 0, 1}, {3, 1, 6, 1}, {3, 1, 1, 0}, {3, 1, 1, 7}};
        for (int[] b : bad) {
            CHECK.due("add", x.add(b[0], b[1], b[2], b[3]), Check.BAD);
        }
        for (int far : FAR) {
            CHECK.due("far kind", x.add(far, 1, 1, 1), Check.BAD);
            CHECK.due("far N", x.add(0, far, 1, 1), Check.BAD);
            CHECK.due("far N", x.add(3, far, 1, 1), Check.BAD);
            CHECK.due("far rank", x.add(3, 1, far, 1), Check.BAD);
            CHECK.due("far colour", x.add(3, 1, 1, far), Check.BAD);
        }
        CHECK.due("the least", x.add(0, 0, 1, 1), 0);
        CHECK.due("the greatest", x.add(3, 365, 5, 6), 1);
        CHECK.due("acts", x.count(3), 2);
    }

    /** "d, n: N 1 to 365; b, f: N 0 to 99" of add. */
    private static void addNumberByKind() {
        for (int kind = 0; kind <= 3; kind++) {
            int least = kind < 2 ? 0 : 1;
            int greatest = kind < 2 ? 99 : 365;
            FeastRota x = Check.of("k1,2,3;p20,3;c3,1;");
            CHECK.due("below " + kind, x.add(kind, least - 1, 1, 1), Check.BAD);
            CHECK.due("above " + kind, x.add(kind, greatest + 1, 1, 1), Check.BAD);
            CHECK.due("least " + kind, x.add(kind, least, 1, 1), 0);
            CHECK.due("greatest " + kind, x.add(kind, greatest, 1, 1), 1);
            CHECK.due("is least " + kind, x.feast(0, 1), least);
            CHECK.due("is greatest " + kind, x.feast(1, 1), greatest);
        }
    }

    /** "A FEAST more: its number." "FULL: 12." */
    private static void addTwelve() {
        FeastRota x = Check.of("k1,2,3;p20,3;c3,1;");
        for (int f = 0; f < 12; f++) {
            CHECK.due("number", x.add(3, f + 1, 1, 1), f);
        }
        CHECK.due("the thirteenth", x.add(3, 13, 1, 1), Check.FULL);
        CHECK.due("feasts", x.count(0), 12);
        CHECK.due("acts", x.count(3), 12);
        FeastRota told = Check.of("k1,2,3;" + "b1,1,1;".repeat(12) + "p20,3;c3,1;");
        CHECK.due("twelve are told", told.add(3, 13, 1, 1), Check.FULL);
        CHECK.due("acts", told.count(3), 0);
    }

    /** "the first of these that fits: BAD .. FULL" */
    private static void addBadAheadOfFull() {
        FeastRota x = Check.of("k1,2,3;" + "b1,1,1;".repeat(12) + "p20,3;c3,1;");
        CHECK.due("bad, and no room", x.add(3, 0, 1, 1), Check.BAD);
    }

    /** "FULL: 12", but no more when the twelfth is undone. */
    private static void addOnceMoreBehindUndo() {
        FeastRota x = Check.of("k1,2,3;" + "b1,1,1;".repeat(11) + "p20,3;c3,1;");
        CHECK.due("the twelfth", x.add(3, 13, 5, 6), 11);
        CHECK.due("full", x.add(3, 14, 1, 1), Check.FULL);
        CHECK.due("undo", x.undo(), 0);
        CHECK.due("no twelfth", x.feast(11, 0), Check.BAD);
        CHECK.due("another twelfth", x.add(1, 14, 2, 3), 11);
        int[] marks = {1, 14, 2, 3};
        for (int what = 0; what <= 3; what++) {
            CHECK.due("as it is told now", x.feast(11, what), marks[what]);
        }
    }

    /** "STATE: no BOOK" of law. */
    private static void lawWithoutABook() {
        FeastRota x = new FeastRota();
        for (int which = 0; which <= 5; which++) {
            CHECK.due("law " + which, x.law(which, LEAST_LAW[which]), Check.STATE);
        }
        CHECK.due("acts", x.count(3), 0);
    }

    /** "(ahead of BAD)" of law. */
    private static void lawStateAheadOfBad() {
        CHECK.due("no such law", new FeastRota().law(6, 0), Check.STATE);
        CHECK.due("no such law", new FeastRota().law(-1, 0), Check.STATE);
        CHECK.due("no such number", new FeastRota().law(0, 3), Check.STATE);
    }

    /** "LEAP (which = 0) .. RULE (5)" */
    private static void lawNoSuchLaw() {
        FeastRota x = Check.of(TEXT);
        for (int which : new int[] {-1, 6, Integer.MIN_VALUE, Integer.MAX_VALUE}) {
            CHECK.due("law " + which, x.law(which, 1), Check.BAD);
        }
        CHECK.due("acts", x.count(3), 0);
    }

    /** "is v, as told: what it was. BAD" */
    private static void lawLimits() {
        int[] was = {1, 2, 3, 20, 3, 1};
        for (int which = 0; which <= 5; which++) {
            FeastRota x = Check.of(TEXT);
            CHECK.due("below " + which, x.law(which, LEAST_LAW[which] - 1), Check.BAD);
            CHECK.due("above " + which, x.law(which, GREATEST_LAW[which] + 1), Check.BAD);
            for (int far : FAR) {
                CHECK.due("far off " + which, x.law(which, far), Check.BAD);
            }
            CHECK.due("least " + which, x.law(which, LEAST_LAW[which]), was[which]);
            CHECK.due("greatest " + which, x.law(which, GREATEST_LAW[which]), LEAST_LAW[which]);
            CHECK.due("as before " + which, x.law(which, was[which]), GREATEST_LAW[which]);
        }
    }

    /** "BAD (.. there is no such thing)": without a BOOK there is no CHOIR. */
    private static void awayWithoutABook() {
        CHECK.due("away", new FeastRota().away(0, 1, 2), Check.BAD);
    }

    /** "A CHOIR is AWAY": 0 to the last one. */
    private static void awayNoSuchChoir() {
        for (int choirs = 2; choirs <= 5; choirs++) {
            FeastRota x = Check.of("k1,2,3;p20,3;c" + choirs + ",1;");
            CHECK.due("the first", x.away(0, 1, 2), 1);
            CHECK.due("the last", x.away(choirs - 1, 1, 2), 1);
            CHECK.due("ahead of the first", x.away(-1, 1, 2), Check.BAD);
            CHECK.due("behind the last", x.away(choirs, 1, 2), Check.BAD);
            for (int far : FAR) {
                CHECK.due("far off", x.away(far, 1, 2), Check.BAD);
            }
            CHECK.due("acts", x.count(3), 2);
        }
    }

    /** "from a DAY to another one (0 to 366): 1. BAD." */
    private static void awayDays() {
        FeastRota x = Check.of(TEXT);
        for (int d : new int[] {-1, 367, Integer.MIN_VALUE, Integer.MAX_VALUE}) {
            CHECK.due("from " + d, x.away(0, d, 5), Check.BAD);
            CHECK.due("to " + d, x.away(0, 5, d), Check.BAD);
        }
        CHECK.due("acts", x.count(3), 0);
        CHECK.due("0 to 0", x.away(0, 0, 0), 1);
        CHECK.due("0 to 366", x.away(0, 0, 366), 1);
        CHECK.due("366 to 0", x.away(0, 366, 0), 1);
        CHECK.due("366 to 366", x.away(0, 366, 366), 1);
        CHECK.due("acts", x.count(3), 4);
    }

    /** "a CHOIR is AWAY" is an ACT: both days are as before when it is undone. */
    private static void awayAndUndo() {
        // DAY 1 is a Monday: until Sunday one SERVICE a DAY, so that choir 0 has one of two
        FeastRota x = Check.of("k0,0,1;p20,3;c2,0;");
        x.away(0, 1, 6);
        x.away(0, 3, 4);
        CHECK.due("on days 1, 2, 5, 6", x.duties(0, 1, 2) * 10 + x.duties(0, 1, 6), 13);
        x.undo();
        CHECK.due("on none", x.duties(0, 1, 6), 0);
        x.undo();
        CHECK.due("on days 1, 3, 5", x.duties(0, 1, 6), 3);
    }

    /** "Of a FEAST": 0 to the last one; without a BOOK there is none. */
    private static void feastNoSuchFeast() {
        CHECK.due("no book", new FeastRota().feast(0, 0), Check.BAD);
        CHECK.due("no feast", Check.of("k0,0,0;p10,1;c2,0;").feast(0, 0), Check.BAD);
        FeastRota x = Check.of(TEXT);
        CHECK.due("the first", x.feast(0, 0), 0);
        CHECK.due("the last", x.feast(3, 0), 3);
        for (int f : new int[] {-1, 4, Integer.MIN_VALUE, Integer.MAX_VALUE}) {
            CHECK.due("feast " + f, x.feast(f, 0), Check.BAD);
        }
    }

    /** "0 KIND, 1 N, 2 RANK, 3 COLOUR. BAD." */
    private static void feastNoSuchMark() {
        FeastRota x = Check.of(TEXT);
        CHECK.due("0", x.feast(3, 0), 3);
        CHECK.due("3", x.feast(3, 3), 4);
        for (int what : new int[] {-1, 4, Integer.MIN_VALUE, Integer.MAX_VALUE}) {
            CHECK.due("what " + what, x.feast(0, what), Check.BAD);
        }
    }

    /** "An IMAGE (0, 1) is kept" "BAD" */
    private static void imageNumbers() {
        FeastRota x = Check.of(TEXT);
        CHECK.due("0", x.image(0), 1);
        CHECK.due("1", x.image(1), 1);
        for (int k : new int[] {-1, 2, Integer.MIN_VALUE, Integer.MAX_VALUE}) {
            CHECK.due("image " + k, x.image(k), Check.BAD);
        }
        CHECK.due("no act", x.count(3), 0);
    }

    /** "BAD; STATE: no BOOK." of image: here BAD is ahead. */
    private static void imageWithoutABook() {
        FeastRota x = new FeastRota();
        CHECK.due("0", x.image(0), Check.STATE);
        CHECK.due("1", x.image(1), Check.STATE);
        CHECK.due("-1", x.image(-1), Check.BAD);
        CHECK.due("2", x.image(2), Check.BAD);
        Check.tell(x, TEXT);
        CHECK.due("none was kept then", x.restore(0), Check.STATE);
    }

    /** "An IMAGE (0, 1) is kept", in place of the one before, and not of the other one. */
    private static void imageIsKeptAnew() {
        FeastRota x = Check.of(TEXT);
        x.image(0);
        x.image(1);
        x.add(3, 7, 1, 1);
        x.image(0);
        x.restore(1);
        CHECK.due("image 1", x.count(0), 4);
        x.restore(0);
        CHECK.due("image 0", x.count(0), 5);
    }

    /** "BAD" of restore, ahead of STATE. */
    private static void restoreNumbers() {
        FeastRota x = Check.of(TEXT);
        for (int k : new int[] {-1, 2, Integer.MIN_VALUE, Integer.MAX_VALUE}) {
            CHECK.due("none was kept, restore " + k, x.restore(k), Check.BAD);
        }
        x.image(0);
        x.image(1);
        for (int k : new int[] {-1, 2, Integer.MIN_VALUE, Integer.MAX_VALUE}) {
            CHECK.due("restore " + k, x.restore(k), Check.BAD);
        }
        CHECK.due("no book", new FeastRota().restore(2), Check.BAD);
    }

    /** "STATE: none was kept." */
    private static void restoreWithoutAnImage() {
        CHECK.due("no book", new FeastRota().restore(0), Check.STATE);
        for (int k = 0; k <= 1; k++) {
            FeastRota x = Check.of(TEXT);
            x.law(1, 5);
            x.image(1 - k);
            CHECK.due("the other one was kept", x.restore(k), Check.STATE);
            CHECK.due("acts stay", x.count(3), 1);
        }
    }

    /** "An IMAGE (0, 1) is kept of the BOOK and who is AWAY" */
    private static void restoreBringsAwayBack() {
        FeastRota x = Check.of("k0,0,1;p20,3;c5,0;");
        x.away(4, 0, 366);
        x.image(0);
        x.away(4, 1, 0);
        x.away(0, 0, 366);
        x.image(1);
        x.restore(0);
        CHECK.due("choir 4 is away", x.duties(4, 1, 365), 0);
        CHECK.due("choir 0 is not", x.sings(1, 1, 0), 0);
        x.restore(1);
        CHECK.due("choir 4 is not away", x.sings(1, 4, 0), 4);
        CHECK.due("choir 0 is", x.duties(0, 1, 365), 0);
    }

    /** "who is AWAY", from which DAY to which. */
    private static void restoreBringsDaysOfAwayBack() {
        FeastRota x = Check.of("k0,0,1;p20,3;c2,0;");
        x.away(0, 3, 4);
        x.image(0);
        x.away(0, 1, 6);
        x.restore(0);
        int[] choirs = {0, 1, 1, 1, 0, 0};
        for (int d = 1; d <= 6; d++) {
            CHECK.due("day " + d, x.sings(1, d, 0), choirs[d - 1]);
        }
    }

    /** "(no ACT can be undone then)" */
    private static void noActBehindRestore() {
        FeastRota x = Check.of(TEXT);
        x.law(1, 5);
        x.image(0);
        x.law(1, 6);
        CHECK.due("restore", x.restore(0), 1);
        CHECK.due("acts", x.count(3), 0);
        CHECK.due("undo", x.undo(), Check.STATE);
        CHECK.due("MOON", x.law(1, 7), 5);
        CHECK.due("a new act", x.undo(), 0);
    }

    /** "The BOOK is as an IMAGE kept it", whatever is done to the BOOK ahead or behind. */
    private static void imageStaysAsItWas() {
        FeastRota x = Check.of(TEXT);
        x.image(0);
        for (int round = 0; round < 2; round++) {
            x.alter(0, 3, 6);
            x.add(3, 7, 1, 1);
            x.law(3, 150);
            x.away(0, 0, 366);
            CHECK.due("restore", x.restore(0), 1);
            CHECK.due("colour", x.feast(0, 3), 1);
            CHECK.due("feasts", x.count(0), 4);
            CHECK.due("seasons", x.count(1), 1);
            CHECK.due("psalms", x.read(1, 21, 1), Check.BAD);
            CHECK.due("not away", x.duties(0, 1, 365) > 0 ? 1 : 0, 1);
        }
    }

    /** "How many: 0 FEASTS .. 4 bytes on the tape. BAD." */
    private static void countNumbers() {
        FeastRota x = Check.of(TEXT);
        x.feed('k');
        x.law(1, 5);
        int[] counts = {4, 1, 3, 1, 1};
        for (int what = 0; what <= 4; what++) {
            CHECK.due("count " + what, x.count(what), counts[what]);
        }
        for (int what : new int[] {-1, 5, Integer.MIN_VALUE, Integer.MAX_VALUE}) {
            CHECK.due("count " + what, x.count(what), Check.BAD);
        }
    }

    /** "How many", of what is empty. */
    private static void countWithoutABook() {
        FeastRota x = new FeastRota();
        for (int what = 0; what <= 4; what++) {
            CHECK.due("count " + what, x.count(what), 0);
        }
        CHECK.due("count 5", x.count(5), Check.BAD);
        CHECK.due("count -1", x.count(-1), Check.BAD);
    }
}
