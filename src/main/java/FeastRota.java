import java.util.Arrays;

/**
 * A year of feasts, told as a book in a text. The document numbers what it promises; "Promise n" below points there.
 * All rows are made in constructors and used again, so that no call makes an object.
 */
public final class FeastRota {
    public static final int NONE = -1000000, BAD = -1000001, STATE = -1000002, FULL = -1000003;

    private static final int FAULT_BASE = -1000100;
    private static final int LAST_YEAR = 999;
    private static final int MOST_FEASTS = 12;
    private static final int MOST_SEASONS = 4;
    private static final int MOST_CHOIRS = 5;
    private static final int MOST_SERVICES = 4;
    private static final int MOST_DAYS = 366;
    private static final int MOST_EACH = 9;
    private static final int IMAGES = 2;

    // the marks of a FEAST, as alter and feast number them
    private static final int KIND = 0;
    private static final int N = 1;
    private static final int RANK = 2;
    private static final int COLOUR = 3;
    private static final int MARKS = 4;

    // the laws of a BOOK, as law numbers them, and what they may be
    private static final int LEAP = 0;
    private static final int MOON = 1;
    private static final int FIRST = 2;
    private static final int PSALMS = 3;
    private static final int EACH = 4;
    private static final int RULE = 5;
    private static final int LAWS = 6;
    private static final int[] LEAST_LAW = {0, 0, 0, 10, 1, 0};
    private static final int[] GREATEST_LAW = {2, 29, 6, 150, 9, 2};

    // KINDS of FEASTS
    private static final int AHEAD = 0;
    private static final int BEHIND = 1;
    private static final int NEXT = 2;
    private static final int DATED = 3;

    // how a FEAST is in a YEAR
    private static final int NO_DAY = 0;
    private static final int ON_OWN_DAY = 1;
    private static final int MOVED = 2;
    private static final int REMEMBERED = 3;
    private static final int LEFT_OUT = 4;
    private static final int LOST = 5;

    private static final int SUNDAY_RANK = 3;
    private static final int[] SERVICES_BY_RANK = {1, 1, 2, 2, 3, 4};
    private static final int NOBODY = -1;

    private final Tape tape;
    private final Reader reader;
    private final Book current;
    private final Book[] images;
    private final Acts acts;
    private final Plan plan;
    private final Rota rota;
    private int latestFault;

    /** Promise 1. */
    public FeastRota() {
        Tape newTape = new Tape();
        Book newBook = new Book();
        Plan newPlan = new Plan(newBook, new Calendar());
        Book[] newImages = new Book[IMAGES];
        for (int k = 0; k < IMAGES; k++) {
            newImages[k] = new Book();
        }
        tape = newTape;
        reader = new Reader(newTape, new Book());
        current = newBook;
        images = newImages;
        acts = new Acts();
        plan = newPlan;
        rota = new Rota(newBook, newPlan);
        latestFault = 0;
    }

    // ---- what is told

    /** Promise 2. */
    public int feed(int letter) {
        if (!within(letter, 0, 255)) {
            return BAD;
        }
        return tape.put(letter) ? tape.length : FULL;
    }

    /** Promise 3. */
    public int book() {
        boolean good = reader.readsAll();
        tape.length = 0;
        if (!good) {
            latestFault = reader.fault;
            return FAULT_BASE - reader.place;
        }
        current.become(reader.draft);
        acts.kept = 0;
        return current.feasts;
    }

    /** Promise 4. */
    public int fault() {
        return latestFault;
    }

    /** Promise 5. */
    public int undo() {
        if (acts.kept <= 0) {
            return STATE;
        }
        acts.takeBackLatest(current);
        return acts.kept;
    }

    // ---- what is done

    /** Promise 6. */
    public int alter(int feast, int which, int v) {
        if (!current.hasFeast(feast) || !within(which, 0, MARKS - 1)) {
            return BAD;
        }
        int kind = which == KIND ? v : current.mark(feast, KIND);
        int n = which == N ? v : current.mark(feast, N);
        int rank = which == RANK ? v : current.mark(feast, RANK);
        int colour = which == COLOUR ? v : current.mark(feast, COLOUR);
        if (!Book.canBe(kind, n, rank, colour)) {
            return BAD;
        }
        int was = current.mark(feast, which);
        acts.keep(Acts.MARK, feast * MARKS + which, was, 0);
        current.marks[feast * MARKS + which] = v;
        return was;
    }

    /** Promise 7. */
    public int add(int kind, int n, int rank, int colour) {
        if (!current.told) {
            return STATE;
        }
        if (!Book.canBe(kind, n, rank, colour)) {
            return BAD;
        }
        if (current.feasts >= MOST_FEASTS) {
            return FULL;
        }
        acts.keep(Acts.MORE, 0, 0, 0);
        current.tellFeast(kind, n, rank, colour);
        return current.feasts - 1;
    }

    /** Promise 8. */
    public int law(int which, int v) {
        if (!current.told) {
            return STATE;
        }
        if (!within(which, 0, LAWS - 1) || !within(v, LEAST_LAW[which], GREATEST_LAW[which])) {
            return BAD;
        }
        int was = current.laws[which];
        acts.keep(Acts.LAW, which, was, 0);
        current.laws[which] = v;
        return was;
    }

    /** Promise 9. */
    public int away(int choir, int from, int to) {
        if (!current.hasChoir(choir) || !within(from, 0, MOST_DAYS) || !within(to, 0, MOST_DAYS)) {
            return BAD;
        }
        acts.keep(Acts.AWAY, choir, current.leaves[choir], current.returns[choir]);
        current.leaves[choir] = from;
        current.returns[choir] = to;
        return 1;
    }

    /** Promise 10. */
    public int feast(int feast, int what) {
        if (!current.hasFeast(feast) || !within(what, 0, MARKS - 1)) {
            return BAD;
        }
        return current.mark(feast, what);
    }

    // ---- a year

    /** Promise 11. */
    public int year(int y, int what) {
        if (!current.told) {
            return STATE;
        }
        if (!isYear(y) || !within(what, 0, 8)) {
            return BAD;
        }
        plan.lay(y, NOBODY);
        Calendar calendar = plan.calendar;
        switch (what) {
            case 0: return calendar.days;
            case 1: return calendar.start;
            case 2: return calendar.moon;
            case 3: return calendar.spring;
            case 4: return calendar.sundays();
            case 5: return plan.howMany(ON_OWN_DAY) + plan.howMany(MOVED);
            case 6: return plan.howMany(REMEMBERED);
            case 7: return plan.servicesOfAllDays();
            default:
                rota.go(current.laws[RULE], calendar.days);
                return rota.missed;
        }
    }

    /** Promise 12. */
    public int day(int y, int d, int what) {
        if (!current.told) {
            return STATE;
        }
        if (!isDay(y, d) || !within(what, 0, 5)) {
            return BAD;
        }
        plan.lay(y, NOBODY);
        switch (what) {
            case 0: return plan.calendar.weekday(d);
            case 1: return plan.holderOf(d) == NOBODY ? NONE : plan.holderOf(d);
            case 2: return plan.rankOf(d);
            case 3: return plan.colourOf(d);
            case 4: return plan.servicesOf(d);
            default: return plan.rememberedOn(d);
        }
    }

    /** Promise 13. */
    public int held(int feast, int y, int what) {
        if (!current.hasFeast(feast) || !isYear(y) || !within(what, 0, 2)) {
            return BAD;
        }
        plan.lay(y, NOBODY);
        switch (what) {
            case 0: return plan.how[feast];
            case 1: return plan.own[feast];
            default: return plan.on[feast];
        }
    }

    /** Promise 14. */
    public int psalm(int y, int d, int what) {
        if (!current.told) {
            return STATE;
        }
        if (!isDay(y, d) || !within(what, 0, 2)) {
            return BAD;
        }
        plan.lay(y, NOBODY);
        int each = current.laws[EACH];
        int psalms = Math.max(1, current.laws[PSALMS]);
        int readBehind = plan.readingDays(d) * each;
        if (what == 2) {
            return readBehind / psalms;
        }
        if (!plan.isReadingDay(d)) {
            return NONE;
        }
        return (what == 0 ? readBehind - each : readBehind - 1) % psalms + 1;
    }

    /** Promise 15. */
    public int read(int y, int psalm, int k) {
        if (!current.told) {
            return STATE;
        }
        if (!isYear(y) || !within(psalm, 1, current.laws[PSALMS]) || k < 1) {
            return BAD;
        }
        plan.lay(y, NOBODY);
        long place = (k - 1L) * current.laws[PSALMS] + psalm;
        return plan.dayOfReading(place);
    }

    /** Promise 16. */
    public int sings(int y, int d, int i) {
        if (!current.told) {
            return STATE;
        }
        if (!isDay(y, d) || i < 0) {
            return BAD;
        }
        plan.lay(y, NOBODY);
        if (i >= plan.servicesOf(d) || i >= MOST_SERVICES) {
            return NONE;
        }
        rota.go(current.laws[RULE], d);
        return rota.today[i] == NOBODY ? NONE : rota.today[i];
    }

    /** Promise 17. */
    public int duties(int choir, int y, int d) {
        if (!current.hasChoir(choir) || !(d == 0 && isYear(y) || isDay(y, d))) {
            return BAD;
        }
        plan.lay(y, NOBODY);
        rota.go(current.laws[RULE], d);
        return rota.has[choir];
    }

    /** Promise 18. */
    public int fair(int y) {
        if (!current.told) {
            return STATE;
        }
        if (!isYear(y)) {
            return BAD;
        }
        plan.lay(y, NOBODY);
        rota.go(current.laws[RULE], plan.calendar.days);
        return rota.gap();
    }

    // ---- years

    /** Promise 19. */
    public int meet(int a, int b, int y) {
        if (!current.hasFeast(a) || !current.hasFeast(b) || a == b || !isYear(y)) {
            return BAD;
        }
        int last = lastOf(y, 99);
        for (int at = y; at <= last; at++) {
            plan.calendar.turnTo(current, at);
            int day = plan.ownDayOf(a);
            if (day != NONE && day == plan.ownDayOf(b)) {
                return at;
            }
        }
        return NONE;
    }

    /** Promise 20. */
    public int springs(int y, int n, int what) {
        if (!current.told) {
            return STATE;
        }
        if (!isYear(y) || !within(n, 1, 99) || !within(what, 0, 2)) {
            return BAD;
        }
        int earliest = MOST_DAYS;
        int latest = 0;
        int leapYears = 0;
        int last = lastOf(y, n);
        for (int at = y; at <= last; at++) {
            plan.calendar.turnTo(current, at);
            int date = plan.calendar.dateOfSpring();
            earliest = Math.min(earliest, date);
            latest = Math.max(latest, date);
            leapYears += plan.calendar.isLeap() ? 1 : 0;
        }
        return what == 0 ? earliest : what == 1 ? latest : leapYears;
    }

    /** Promise 21. */
    public int often(int feast, int y, int n, int as) {
        if (!current.hasFeast(feast) || !isYear(y) || !within(n, 1, 30) || !within(as, NO_DAY, LOST)) {
            return BAD;
        }
        int times = 0;
        int last = lastOf(y, n);
        for (int at = y; at <= last; at++) {
            plan.lay(at, NOBODY);
            times += plan.how[feast] == as ? 1 : 0;
        }
        return times;
    }

    /** Promise 22. */
    public int enough(int y, int k) {
        if (!current.told) {
            return STATE;
        }
        if (!isYear(y) || !within(k, 1, 400)) {
            return BAD;
        }
        plan.lay(y, NOBODY);
        int readingDays = plan.readingDays(plan.calendar.days);
        for (int each = 1; each <= MOST_EACH; each++) {
            if (readingDays * each >= k * current.laws[PSALMS]) {
                return each;
            }
        }
        return NONE;
    }

    /** Promise 23. */
    public int best(int y) {
        if (!current.told) {
            return STATE;
        }
        if (!isYear(y)) {
            return BAD;
        }
        plan.lay(y, NOBODY);
        int fairest = NONE;
        int leastGap = 0;
        for (int rule = LEAST_LAW[RULE]; rule <= GREATEST_LAW[RULE]; rule++) {
            rota.go(rule, plan.calendar.days);
            if (fairest == NONE || rota.gap() < leastGap) {
                leastGap = rota.gap();
                fairest = rule;
            }
        }
        return fairest;
    }

    /** Promise 24. */
    public int bars(int f, int y) {
        if (!current.hasFeast(f) || !isYear(y)) {
            return BAD;
        }
        plan.lay(y, NOBODY);
        if (plan.how[f] == ON_OWN_DAY || plan.how[f] == NO_DAY) {
            return 0;
        }
        int set = 0;
        for (int other = 0; other < current.feasts; other++) {
            plan.lay(y, other);
            if (plan.how[f] == ON_OWN_DAY) {
                set |= 1 << other;
            }
        }
        return set;
    }

    /** Promise 25. */
    public int image(int k) {
        if (!within(k, 0, IMAGES - 1)) {
            return BAD;
        }
        if (!current.told) {
            return STATE;
        }
        images[k].become(current);
        return 1;
    }

    /** Promise 26. */
    public int restore(int k) {
        if (!within(k, 0, IMAGES - 1)) {
            return BAD;
        }
        if (!images[k].told) {
            return STATE;
        }
        current.become(images[k]);
        acts.kept = 0;
        return 1;
    }

    /** Promise 27. */
    public int count(int what) {
        switch (what) {
            case 0: return current.feasts;
            case 1: return current.seasons;
            case 2: return current.choirs;
            case 3: return acts.kept;
            case 4: return tape.length;
            default: return BAD;
        }
    }

    private static boolean within(int v, int least, int greatest) {
        return least <= v && v <= greatest;
    }

    private static boolean isYear(int y) {
        return within(y, 1, LAST_YEAR);
    }

    private boolean isDay(int y, int d) {
        return isYear(y) && within(d, 1, Calendar.daysOf(current.laws[LEAP], y));
    }

    private static int lastOf(int y, int years) {
        return Math.min(y + years - 1, LAST_YEAR);
    }

    /** The bytes that were fed and not read yet. */
    private static final class Tape {
        static final int ROOM = 160;

        final int[] bytes;
        int length;

        Tape() {
            bytes = new int[ROOM];
            length = 0;
        }

        boolean put(int letter) {
            if (length >= ROOM) {
                return false;
            }
            bytes[length] = letter;
            length++;
            return true;
        }

        int at(int place) {
            return 0 <= place && place < length ? bytes[place] : NONE;
        }
    }

    /** All that a text tells, and who is away. */
    private static final class Book {
        boolean told;
        int feasts;
        int seasons;
        int choirs;
        final int[] laws;
        final int[] marks;
        final int[] seasonFrom;
        final int[] seasonTo;
        final int[] seasonColour;
        final int[] leaves;
        final int[] returns;

        Book() {
            laws = new int[LAWS];
            marks = new int[MOST_FEASTS * MARKS];
            seasonFrom = new int[MOST_SEASONS];
            seasonTo = new int[MOST_SEASONS];
            seasonColour = new int[MOST_SEASONS];
            leaves = new int[MOST_CHOIRS];
            returns = new int[MOST_CHOIRS];
        }

        static boolean canBe(int kind, int n, int rank, int colour) {
            return within(kind, AHEAD, DATED) && within(n, leastN(kind), greatestN(kind))
                && within(rank, 1, 5) && within(colour, 1, 6);
        }

        static int leastN(int kind) {
            return kind == AHEAD || kind == BEHIND ? 0 : 1;
        }

        static int greatestN(int kind) {
            return kind == AHEAD || kind == BEHIND ? 99 : 365;
        }

        /** As a new text finds it. */
        void empty() {
            told = false;
            feasts = 0;
            seasons = 0;
            choirs = 0;
            Arrays.fill(leaves, 1);
            Arrays.fill(returns, 0);
        }

        void become(Book other) {
            told = true;
            feasts = other.feasts;
            seasons = other.seasons;
            choirs = other.choirs;
            System.arraycopy(other.laws, 0, laws, 0, LAWS);
            System.arraycopy(other.marks, 0, marks, 0, MOST_FEASTS * MARKS);
            System.arraycopy(other.seasonFrom, 0, seasonFrom, 0, MOST_SEASONS);
            System.arraycopy(other.seasonTo, 0, seasonTo, 0, MOST_SEASONS);
            System.arraycopy(other.seasonColour, 0, seasonColour, 0, MOST_SEASONS);
            System.arraycopy(other.leaves, 0, leaves, 0, MOST_CHOIRS);
            System.arraycopy(other.returns, 0, returns, 0, MOST_CHOIRS);
        }

        boolean hasFeast(int f) {
            return 0 <= f && f < feasts;
        }

        boolean hasChoir(int c) {
            return 0 <= c && c < choirs;
        }

        int mark(int f, int which) {
            return hasFeast(f) && within(which, 0, MARKS - 1) ? marks[f * MARKS + which] : 0;
        }

        void tellFeast(int kind, int n, int rank, int colour) {
            if (feasts >= MOST_FEASTS) {
                return;
            }
            int at = feasts * MARKS;
            marks[at + KIND] = kind;
            marks[at + N] = n;
            marks[at + RANK] = rank;
            marks[at + COLOUR] = colour;
            feasts++;
        }

        void tellSeason(int from, int to, int colour) {
            if (seasons >= MOST_SEASONS) {
                return;
            }
            seasonFrom[seasons] = from;
            seasonTo[seasons] = to;
            seasonColour[seasons] = colour;
            seasons++;
        }

        boolean isAway(int c, int d) {
            return hasChoir(c) && within(d, leaves[c], returns[c]);
        }
    }

    /** Reads the tape into a draft, so that a fault leaves the book that stands as it is. */
    private static final class Reader {
        final Tape tape;
        final Book draft;
        int at;
        int value;
        int fault;
        int place;

        Reader(Tape tape, Book draft) {
            this.tape = tape;
            this.draft = draft;
        }

        boolean readsAll() {
            at = 0;
            fault = 0;
            place = 0;
            draft.empty();
            return head() && feasts() && seasons() && psalter() && choirs() && end();
        }

        private boolean head() {
            return sign('k') && lawNumber(LEAP, ',') && lawNumber(MOON, ',') && lawNumber(FIRST, ';');
        }

        private boolean feasts() {
            for (int i = 0; i <= MOST_FEASTS; i++) {
                int kind = kindOf(tape.at(at));
                if (kind == NONE) {
                    return true;
                }
                if (draft.feasts >= MOST_FEASTS) {
                    return fails(3);
                }
                if (!oneFeast(kind)) {
                    return false;
                }
            }
            return true;
        }

        private boolean oneFeast(int kind) {
            at++;
            if (!number(Book.leastN(kind), Book.greatestN(kind), ',')) {
                return false;
            }
            int n = value;
            if (!number(1, 5, ',')) {
                return false;
            }
            int rank = value;
            if (!number(1, 6, ';')) {
                return false;
            }
            draft.tellFeast(kind, n, rank, value);
            return true;
        }

        private boolean seasons() {
            for (int i = 0; i <= MOST_SEASONS; i++) {
                if (tape.at(at) != 'z') {
                    return true;
                }
                if (draft.seasons >= MOST_SEASONS) {
                    return fails(3);
                }
                if (!oneSeason()) {
                    return false;
                }
            }
            return true;
        }

        private boolean oneSeason() {
            at++;
            if (!number(0, draft.feasts - 1, ',')) {
                return false;
            }
            int from = value;
            int placeOfTo = at;
            if (!bareNumber(0, draft.feasts - 1)) {
                return false;
            }
            int to = value;
            if (to == from) {
                at = placeOfTo;
                return fails(2);
            }
            if (!sign(',') || !number(1, 6, ';')) {
                return false;
            }
            draft.tellSeason(from, to, value);
            return true;
        }

        private boolean psalter() {
            return sign('p') && lawNumber(PSALMS, ',') && lawNumber(EACH, ';');
        }

        private boolean choirs() {
            if (!sign('c') || !number(2, MOST_CHOIRS, ',')) {
                return false;
            }
            draft.choirs = value;
            return lawNumber(RULE, ';');
        }

        private boolean end() {
            return at >= tape.length || fails(1);
        }

        private boolean lawNumber(int which, int sign) {
            if (!within(which, 0, LAWS - 1) || !number(LEAST_LAW[which], GREATEST_LAW[which], sign)) {
                return false;
            }
            draft.laws[which] = value;
            return true;
        }

        private boolean number(int least, int greatest, int sign) {
            return bareNumber(least, greatest) && sign(sign);
        }

        private boolean bareNumber(int least, int greatest) {
            int figures = 0;
            int sum = 0;
            // one figure more than a NUMBER may have is enough to know that it is none
            while (figures < 4 && within(tape.at(at + figures), '0', '9')) {
                sum = sum * 10 + tape.at(at + figures) - '0';
                figures++;
            }
            if (figures == 0 || figures > 3) {
                return fails(1);
            }
            if (!within(sum, least, greatest)) {
                return fails(2);
            }
            value = sum;
            at += figures;
            return true;
        }

        private boolean sign(int letter) {
            if (tape.at(at) != letter) {
                return fails(1);
            }
            at++;
            return true;
        }

        private boolean fails(int number) {
            fault = number;
            place = at;
            return false;
        }

        private static int kindOf(int letter) {
            switch (letter) {
                case 'b': return AHEAD;
                case 'f': return BEHIND;
                case 'n': return NEXT;
                case 'd': return DATED;
                default: return NONE;
            }
        }
    }

    /** The latest acts, each with what it took the place of. */
    private static final class Acts {
        static final int ROOM = 16;
        static final int MARK = 0;
        static final int MORE = 1;
        static final int LAW = 2;
        static final int AWAY = 3;

        final int[] sort;
        final int[] index;
        final int[] was;
        final int[] wasTo;
        int kept;

        Acts() {
            sort = new int[ROOM];
            index = new int[ROOM];
            was = new int[ROOM];
            wasTo = new int[ROOM];
            kept = 0;
        }

        void keep(int newSort, int newIndex, int newWas, int newWasTo) {
            if (kept >= ROOM) {
                forgetOldest();
            }
            sort[kept] = newSort;
            index[kept] = newIndex;
            was[kept] = newWas;
            wasTo[kept] = newWasTo;
            kept++;
        }

        private void forgetOldest() {
            System.arraycopy(sort, 1, sort, 0, ROOM - 1);
            System.arraycopy(index, 1, index, 0, ROOM - 1);
            System.arraycopy(was, 1, was, 0, ROOM - 1);
            System.arraycopy(wasTo, 1, wasTo, 0, ROOM - 1);
            kept = ROOM - 1;
        }

        void takeBackLatest(Book book) {
            if (kept <= 0) {
                return;
            }
            kept--;
            int at = index[kept];
            if (sort[kept] == MORE) {
                book.feasts = Math.max(0, book.feasts - 1);
            } else if (sort[kept] == MARK && within(at, 0, MOST_FEASTS * MARKS - 1)) {
                book.marks[at] = was[kept];
            } else if (sort[kept] == LAW && within(at, 0, LAWS - 1)) {
                book.laws[at] = was[kept];
            } else if (sort[kept] == AWAY && within(at, 0, MOST_CHOIRS - 1)) {
                book.leaves[at] = was[kept];
                book.returns[at] = wasTo[kept];
            }
        }
    }

    /** The bare days of a year: how many, their weekdays, moon and spring. */
    private static final class Calendar {
        static final int COMMON_DAYS = 365;
        static final int LEAP_DATE = 60;
        static final int MOON_DATE = 80;

        int days;
        int start;
        int moon;
        int spring;

        static int daysOf(int leap, int y) {
            boolean leapYear = leap == 1 && y % 4 == 0
                || leap == 2 && y % 4 == 0 && (y % 100 != 0 || y % 400 == 0);
            return leapYear ? COMMON_DAYS + 1 : COMMON_DAYS;
        }

        static int leapYearsAhead(int leap, int y) {
            int past = y - 1;
            return leap == 0 ? 0 : leap == 1 ? past / 4 : past / 4 - past / 100 + past / 400;
        }

        void turnTo(Book book, int y) {
            int leap = book.laws[LEAP];
            days = daysOf(leap, y);
            start = (book.laws[FIRST] + (y - 1) * COMMON_DAYS + leapYearsAhead(leap, y)) % 7;
            moon = dayOfDate(MOON_DATE + (19 * (y % 19) + book.laws[MOON]) % 30);
            spring = sundayFrom(moon + 1);
        }

        boolean isLeap() {
            return days > COMMON_DAYS;
        }

        int weekday(int d) {
            return (start + d - 1) % 7;
        }

        int dayOfDate(int date) {
            return isLeap() && date >= LEAP_DATE ? date + 1 : date;
        }

        /** SPRING lies behind the leap day in every year. */
        int dateOfSpring() {
            return isLeap() ? spring - 1 : spring;
        }

        int sundayFrom(int d) {
            return d + (7 - weekday(d)) % 7;
        }

        int sundays() {
            return (days - sundayFrom(1)) / 7 + 1;
        }

        int ownDay(int kind, int n) {
            int d = unboundDay(kind, n);
            return within(d, 1, days) ? d : NONE;
        }

        private int unboundDay(int kind, int n) {
            switch (kind) {
                case AHEAD: return spring - n;
                case BEHIND: return spring + n;
                case NEXT: return sundayFrom(dayOfDate(n));
                default: return dayOfDate(n);
            }
        }
    }

    /** Which feast is held where in one year, and what follows from that for its days. */
    private static final class Plan {
        final Book book;
        final Calendar calendar;
        final int[] own;
        final int[] how;
        final int[] on;
        final int[] feastOn;

        Plan(Book book, Calendar calendar) {
            this.book = book;
            this.calendar = calendar;
            own = new int[MOST_FEASTS];
            how = new int[MOST_FEASTS];
            on = new int[MOST_FEASTS];
            feastOn = new int[MOST_DAYS + 1];
        }

        /** The year as it would be if one feast (or NOBODY) were not there. */
        void lay(int y, int without) {
            calendar.turnTo(book, y);
            Arrays.fill(feastOn, NOBODY);
            for (int f = 0; f < book.feasts; f++) {
                own[f] = f == without ? NONE : ownDayOf(f);
                how[f] = NO_DAY;
                on[f] = NONE;
            }
            for (int rank = 5; rank >= 1; rank--) {
                for (int kind = AHEAD; kind <= DATED; kind++) {
                    settleAll(rank, kind);
                }
            }
        }

        int ownDayOf(int f) {
            return calendar.ownDay(book.mark(f, KIND), book.mark(f, N));
        }

        private void settleAll(int rank, int kind) {
            for (int f = 0; f < book.feasts; f++) {
                if (own[f] != NONE && book.mark(f, RANK) == rank && book.mark(f, KIND) == kind) {
                    settle(f, rank);
                }
            }
        }

        private void settle(int f, int rank) {
            int d = own[f];
            if (isFree(d) && (rank > 2 || calendar.weekday(d) != 0)) {
                hold(f, d, ON_OWN_DAY);
                return;
            }
            int lastTried = rank > 3 ? calendar.days : rank == 3 ? Math.min(d + 7, calendar.days) : d;
            int free = firstFree(d + 1, lastTried);
            if (free != NONE) {
                hold(f, free, MOVED);
            } else if (rank == 3 || rank == 2) {
                how[f] = REMEMBERED;
                on[f] = d;
            } else {
                how[f] = rank == 1 ? LEFT_OUT : LOST;
            }
        }

        /** Only for a DAY that is FREE. */
        private void hold(int f, int d, int as) {
            how[f] = as;
            on[f] = d;
            feastOn[d] = f;
        }

        private boolean isFree(int d) {
            return within(d, 1, calendar.days) && feastOn[d] == NOBODY;
        }

        private int firstFree(int from, int to) {
            for (int d = from; d <= to; d++) {
                if (isFree(d)) {
                    return d;
                }
            }
            return NONE;
        }

        int howMany(int as) {
            int sum = 0;
            for (int f = 0; f < book.feasts; f++) {
                sum += how[f] == as ? 1 : 0;
            }
            return sum;
        }

        int rememberedOn(int d) {
            int sum = 0;
            for (int f = 0; f < book.feasts; f++) {
                sum += how[f] == REMEMBERED && on[f] == d ? 1 : 0;
            }
            return sum;
        }

        /** The feast held on a day, or NOBODY. */
        int holderOf(int d) {
            return within(d, 1, calendar.days) ? feastOn[d] : NOBODY;
        }

        int rankOf(int d) {
            int holder = holderOf(d);
            if (holder != NOBODY) {
                return book.mark(holder, RANK);
            }
            return calendar.weekday(d) == 0 ? SUNDAY_RANK : 0;
        }

        int colourOf(int d) {
            int holder = holderOf(d);
            if (holder != NOBODY) {
                return book.mark(holder, COLOUR);
            }
            for (int s = 0; s < book.seasons; s++) {
                if (liesIn(d, book.seasonFrom[s], book.seasonTo[s])) {
                    return book.seasonColour[s];
                }
            }
            return 0;
        }

        private boolean liesIn(int d, int from, int to) {
            return isHeld(from) && isHeld(to) && on[from] <= d && d < on[to];
        }

        private boolean isHeld(int f) {
            return book.hasFeast(f) && (how[f] == ON_OWN_DAY || how[f] == MOVED);
        }

        int servicesOf(int d) {
            int rank = rankOf(d);
            return within(rank, 0, SERVICES_BY_RANK.length - 1) ? SERVICES_BY_RANK[rank] : 0;
        }

        int servicesOfAllDays() {
            int sum = 0;
            for (int d = 1; d <= calendar.days; d++) {
                sum += servicesOf(d);
            }
            return sum;
        }

        boolean isReadingDay(int d) {
            return rankOf(d) <= 3;
        }

        int readingDays(int last) {
            int sum = 0;
            for (int d = 1; d <= last; d++) {
                sum += isReadingDay(d) ? 1 : 0;
            }
            return sum;
        }

        /** The day on which the psalm with this place (1 on) in the course of the year is read. */
        int dayOfReading(long coursePlace) {
            long sum = 0;
            for (int d = 1; d <= calendar.days; d++) {
                sum += isReadingDay(d) ? book.laws[EACH] : 0;
                if (sum >= coursePlace) {
                    return d;
                }
            }
            return NONE;
        }
    }

    /** Goes through a year that is laid, up to some day, and deals out its services. */
    private static final class Rota {
        final Book book;
        final Plan plan;
        final int[] has;
        final int[] latest;
        final int[] today;
        int dealt;
        int missed;
        int sangToday;

        Rota(Book book, Plan plan) {
            this.book = book;
            this.plan = plan;
            has = new int[MOST_CHOIRS];
            latest = new int[MOST_CHOIRS];
            today = new int[MOST_SERVICES];
        }

        void go(int rule, int lastDay) {
            Arrays.fill(has, 0);
            Arrays.fill(latest, 0);
            dealt = 0;
            missed = 0;
            for (int d = 1; d <= lastDay; d++) {
                dealOut(rule, d);
            }
        }

        private void dealOut(int rule, int d) {
            sangToday = 0;
            int services = Math.min(plan.servicesOf(d), MOST_SERVICES);
            for (int i = 0; i < services; i++) {
                int choir = choose(rule, d, sangToday);
                if (choir == NOBODY) {
                    choir = choose(rule, d, 0);
                }
                today[i] = choir;
                give(choir);
            }
        }

        private int choose(int rule, int d, int passedOver) {
            int chosen = NOBODY;
            for (int c = 0; c < book.choirs; c++) {
                boolean can = (passedOver >> c & 1) == 0 && !book.isAway(c, d);
                if (can && (chosen == NOBODY || goesAheadOf(c, chosen, rule))) {
                    chosen = c;
                }
            }
            return chosen;
        }

        /** c has the greater number of the two. */
        private boolean goesAheadOf(int c, int chosen, int rule) {
            if (has[c] != has[chosen]) {
                return has[c] < has[chosen];
            }
            if (rule == 1) {
                return latest[c] < latest[chosen];
            }
            return rule == 2;
        }

        private void give(int choir) {
            if (choir == NOBODY) {
                missed++;
                return;
            }
            dealt++;
            has[choir]++;
            latest[choir] = dealt;
            sangToday |= 1 << choir;
        }

        int gap() {
            int most = has[0];
            int fewest = has[0];
            for (int c = 1; c < book.choirs; c++) {
                most = Math.max(most, has[c]);
                fewest = Math.min(fewest, has[c]);
            }
            return most - fewest;
        }
    }
}
