import java.util.ArrayList;
import java.util.Comparator;
import java.util.List;
import java.util.TreeMap;

/**
 * The document a second time, in another way than the class: whole copies of the state for undo and images, tokens ahead
 * of grammar, days counted one by one. By the same hand as the class, though: it finds slips, but a misreading of the
 * document may stand in both.
 */
final class Model {
    static final int NONE = Check.NONE, BAD = Check.BAD, STATE = Check.STATE, FULL = Check.FULL;

    /** kind, n, rank, colour. */
    record Feast(int kind, int n, int rank, int colour) {
        Feast with(int which, int v) {
            return new Feast(which == 0 ? v : kind, which == 1 ? v : n, which == 2 ? v : rank, which == 3 ? v : colour);
        }

        int get(int what) {
            return new int[] {kind, n, rank, colour}[what];
        }

        boolean good() {
            boolean moving = kind == 0 || kind == 1;
            boolean goodN = moving ? n >= 0 && n <= 99 : n >= 1 && n <= 365;
            return kind >= 0 && kind <= 3 && goodN && rank >= 1 && rank <= 5 && colour >= 1 && colour <= 6;
        }
    }

    record Season(int from, int to, int colour) { }

    record Away(int from, int to) { }

    /** Never changed once it stands, so that keeping a reference keeps the state. */
    record State(List<Feast> feasts, List<Season> seasons, List<Integer> laws, List<Away> choirs) {
        State withFeasts(List<Feast> f) {
            return new State(f, seasons, laws, choirs);
        }
    }

    record Token(char sort, int value, int place) { }

    /** What is known of one year. */
    static final class Year {
        int days;
        int start;
        int moon;
        int spring;
        int[] own;
        int[] how;
        int[] on;
        TreeMap<Integer, Integer> heldOn = new TreeMap<>();
    }

    private static final int[] LOW = {0, 0, 0, 10, 1, 0};
    private static final int[] HIGH = {2, 29, 6, 150, 9, 2};

    private final List<Integer> tape = new ArrayList<>();
    private int faultNumber = 0;
    private State state = null;
    private List<State> past = new ArrayList<>();
    private final State[] images = new State[2];

    private static boolean in(int v, int a, int b) {
        return v >= a && v <= b;
    }

    // ---- telling

    int feed(int letter) {
        if (!in(letter, 0, 255)) {
            return BAD;
        }
        if (tape.size() == 160) {
            return FULL;
        }
        tape.add(letter);
        return tape.size();
    }

    private List<Token> tokens() {
        List<Token> all = new ArrayList<>();
        int i = 0;
        while (i < tape.size()) {
            int c = tape.get(i);
            if (in(c, '0', '9')) {
                int start = i;
                String figures = "";
                while (i < tape.size() && in(tape.get(i), '0', '9')) {
                    figures += (char) (int) tape.get(i);
                    i++;
                }
                boolean good = figures.length() <= 3;
                all.add(new Token(good ? '0' : '?', good ? Integer.parseInt(figures) : 0, start));
            } else {
                boolean good = in(c, 'a', 'z') || c == ',' || c == ';';
                all.add(new Token(good ? (char) c : '?', 0, i));
                i++;
            }
        }
        all.add(new Token('$', 0, tape.size()));
        return all;
    }

    private static final class Fault extends Exception {
        private static final long serialVersionUID = 1L;
        final int number;
        final int place;

        Fault(int number, int place) {
            this.number = number;
            this.place = place;
        }
    }

    private static Token want(List<Token> t, String sorts) throws Fault {
        Token first = t.get(0);
        if (sorts.indexOf(first.sort) < 0) {
            throw new Fault(1, first.place);
        }
        t.remove(0);
        return first;
    }

    private static int number(List<Token> t, int low, int high, String sign) throws Fault {
        Token n = want(t, "0");
        if (!in(n.value, low, high)) {
            throw new Fault(2, n.place);
        }
        want(t, sign);
        return n.value;
    }

    private static State parse(List<Token> t) throws Fault {
        want(t, "k");
        int leap = number(t, 0, 2, ",");
        int moon = number(t, 0, 29, ",");
        int first = number(t, 0, 6, ";");
        List<Feast> feasts = new ArrayList<>();
        List<Season> seasons = new ArrayList<>();
        while ("bfnd".indexOf(t.get(0).sort) >= 0) {
            if (feasts.size() == 12) {
                throw new Fault(3, t.get(0).place);
            }
            int kind = "bfnd".indexOf(want(t, "bfnd").sort);
            int n = kind < 2 ? number(t, 0, 99, ",") : number(t, 1, 365, ",");
            int rank = number(t, 1, 5, ",");
            feasts.add(new Feast(kind, n, rank, number(t, 1, 6, ";")));
        }
        while (t.get(0).sort == 'z') {
            if (seasons.size() == 4) {
                throw new Fault(3, t.get(0).place);
            }
            want(t, "z");
            int from = number(t, 0, feasts.size() - 1, ",");
            Token to = t.get(0);
            if (to.sort == '0' && to.value == from) {
                throw new Fault(2, to.place);
            }
            number(t, 0, feasts.size() - 1, ",");
            seasons.add(new Season(from, to.value, number(t, 1, 6, ";")));
        }
        want(t, "p");
        int psalms = number(t, 10, 150, ",");
        int each = number(t, 1, 9, ";");
        want(t, "c");
        int choirs = number(t, 2, 5, ",");
        int rule = number(t, 0, 2, ";");
        want(t, "$");
        List<Away> away = new ArrayList<>();
        for (int c = 0; c < choirs; c++) {
            away.add(new Away(1, 0));
        }
        return new State(feasts, seasons, List.of(leap, moon, first, psalms, each, rule), away);
    }

    int book() {
        List<Token> t = tokens();
        tape.clear();
        try {
            state = parse(t);
            past = new ArrayList<>();
            return state.feasts.size();
        } catch (Fault f) {
            faultNumber = f.number;
            return -1000100 - f.place;
        }
    }

    int fault() {
        return faultNumber;
    }

    int undo() {
        if (past.isEmpty()) {
            return STATE;
        }
        state = past.remove(past.size() - 1);
        return past.size();
    }

    // ---- doing

    private void act(State next) {
        past.add(state);
        if (past.size() > 16) {
            past.remove(0);
        }
        state = next;
    }

    private boolean noFeast(int f) {
        return state == null || !in(f, 0, state.feasts.size() - 1);
    }

    int alter(int f, int which, int v) {
        if (noFeast(f) || !in(which, 0, 3) || !state.feasts.get(f).with(which, v).good()) {
            return BAD;
        }
        int was = state.feasts.get(f).get(which);
        List<Feast> next = new ArrayList<>(state.feasts);
        next.set(f, next.get(f).with(which, v));
        act(state.withFeasts(next));
        return was;
    }

    int add(int kind, int n, int rank, int colour) {
        if (state == null) {
            return STATE;
        }
        Feast f = new Feast(kind, n, rank, colour);
        if (!f.good()) {
            return BAD;
        }
        if (state.feasts.size() == 12) {
            return FULL;
        }
        List<Feast> next = new ArrayList<>(state.feasts);
        next.add(f);
        act(state.withFeasts(next));
        return next.size() - 1;
    }

    int law(int which, int v) {
        if (state == null) {
            return STATE;
        }
        if (!in(which, 0, 5) || !in(v, LOW[which], HIGH[which])) {
            return BAD;
        }
        List<Integer> next = new ArrayList<>(state.laws);
        int was = next.set(which, v);
        act(new State(state.feasts, state.seasons, next, state.choirs));
        return was;
    }

    int away(int choir, int from, int to) {
        if (state == null || !in(choir, 0, state.choirs.size() - 1) || !in(from, 0, 366) || !in(to, 0, 366)) {
            return BAD;
        }
        List<Away> next = new ArrayList<>(state.choirs);
        next.set(choir, new Away(from, to));
        act(new State(state.feasts, state.seasons, state.laws, next));
        return 1;
    }

    int feast(int f, int what) {
        return noFeast(f) || !in(what, 0, 3) ? BAD : state.feasts.get(f).get(what);
    }

    // ---- a year

    private boolean leap(int y) {
        int by = state.laws.get(0);
        if (by == 0) {
            return false;
        }
        return y % 4 == 0 && (by == 1 || y % 100 != 0 || y % 400 == 0);
    }

    private int date(int y, int n) {
        return leap(y) && n >= 60 ? n + 1 : n;
    }

    private Year bare(int y) {
        Year r = new Year();
        r.days = leap(y) ? 366 : 365;
        int weekday = state.laws.get(2);
        for (int before = 1; before < y; before++) {
            weekday += leap(before) ? 2 : 1;
        }
        r.start = weekday % 7;
        r.moon = date(y, 80 + (19 * (y % 19) + state.laws.get(1)) % 30);
        r.spring = r.moon + 1;
        while (weekday(r, r.spring) != 0) {
            r.spring++;
        }
        return r;
    }

    private static int weekday(Year r, int d) {
        return (r.start + d - 1) % 7;
    }

    private int own(Year r, int y, Feast f) {
        int d;
        if (f.kind == 0) {
            d = r.spring - f.n;
        } else if (f.kind == 1) {
            d = r.spring + f.n;
        } else {
            d = date(y, f.n);
            while (f.kind == 2 && weekday(r, d) != 0) {
                d++;
            }
        }
        return in(d, 1, r.days) ? d : NONE;
    }

    private Year full(int y, int without) {
        Year r = bare(y);
        int many = state.feasts.size();
        r.own = new int[many];
        r.how = new int[many];
        r.on = new int[many];
        List<Integer> row = new ArrayList<>();
        for (int f = 0; f < many; f++) {
            r.own[f] = own(r, y, state.feasts.get(f));
            r.on[f] = NONE;
            if (r.own[f] != NONE && f != without) {
                row.add(f);
            }
        }
        row.sort(Comparator.<Integer>comparingInt(f -> -state.feasts.get(f).rank)
            .thenComparingInt(f -> state.feasts.get(f).kind).thenComparingInt(f -> f));
        for (int f : row) {
            put(r, f, state.feasts.get(f).rank);
        }
        return r;
    }

    private static void put(Year r, int f, int rank) {
        int d = r.own[f];
        if (!r.heldOn.containsKey(d) && !(rank <= 2 && weekday(r, d) == 0)) {
            r.heldOn.put(d, f);
            r.how[f] = 1;
            r.on[f] = d;
            return;
        }
        int tries = rank >= 4 ? 999 : rank == 3 ? 7 : 0;
        for (int i = 1; i <= tries && d + i <= r.days; i++) {
            if (!r.heldOn.containsKey(d + i)) {
                r.heldOn.put(d + i, f);
                r.how[f] = 2;
                r.on[f] = d + i;
                return;
            }
        }
        r.how[f] = new int[] {0, 4, 3, 3, 5, 5}[rank];
        r.on[f] = r.how[f] == 3 ? d : NONE;
    }

    private int rank(Year r, int d) {
        Integer f = r.heldOn.get(d);
        return f != null ? state.feasts.get(f).rank : weekday(r, d) == 0 ? 3 : 0;
    }

    private int colour(Year r, int d) {
        Integer f = r.heldOn.get(d);
        if (f != null) {
            return state.feasts.get(f).colour;
        }
        for (Season s : state.seasons) {
            boolean both = r.heldOn.containsValue(s.from) && r.heldOn.containsValue(s.to);
            if (both && r.on[s.from] < r.on[s.to] && in(d, r.on[s.from], r.on[s.to] - 1)) {
                return s.colour;
            }
        }
        return 0;
    }

    private int services(Year r, int d) {
        switch (rank(r, d)) {
            case 5: return 4;
            case 4: return 3;
            case 3: case 2: return 2;
            default: return 1;
        }
    }

    /** By DAY (from 0, which has none) and SERVICE: the choir, or NONE. */
    private List<List<Integer>> rota(Year r, int rule) {
        List<List<Integer>> days = new ArrayList<>();
        days.add(List.of());
        List<Integer> all = new ArrayList<>();
        for (int d = 1; d <= r.days; d++) {
            List<Integer> today = new ArrayList<>();
            for (int i = 0; i < services(r, d); i++) {
                List<Integer> there = new ArrayList<>();
                for (int c = 0; c < state.choirs.size(); c++) {
                    Away a = state.choirs.get(c);
                    if (!(a.from <= d && d <= a.to)) {
                        there.add(c);
                    }
                }
                List<Integer> fresh = new ArrayList<>(there);
                fresh.removeAll(today);
                List<Integer> from = fresh.isEmpty() ? there : fresh;
                int choir = from.isEmpty() ? NONE : pick(from, all, rule);
                today.add(choir);
                all.add(choir);
            }
            days.add(today);
        }
        return days;
    }

    private static int pick(List<Integer> from, List<Integer> all, int rule) {
        Comparator<Integer> order = Comparator.comparingInt(c -> times(all, c));
        if (rule == 1) {
            order = order.thenComparingInt(all::lastIndexOf);
        }
        order = rule == 2 ? order.thenComparingInt(c -> -c) : order.thenComparingInt(c -> c);
        return from.stream().min(order).get();
    }

    private static int times(List<Integer> all, int c) {
        int sum = 0;
        for (int x : all) {
            sum += x == c ? 1 : 0;
        }
        return sum;
    }

    private static int times(List<List<Integer>> days, int c, int last) {
        int sum = 0;
        for (int d = 0; d <= last; d++) {
            sum += times(days.get(d), c);
        }
        return sum;
    }

    private int how(Year r, int as) {
        int sum = 0;
        for (int h : r.how) {
            sum += h == as ? 1 : 0;
        }
        return sum;
    }

    int year(int y, int what) {
        if (state == null) {
            return STATE;
        }
        if (!in(y, 1, 999) || !in(what, 0, 8)) {
            return BAD;
        }
        Year r = full(y, -1);
        int sundays = 0;
        int services = 0;
        for (int d = 1; d <= r.days; d++) {
            sundays += weekday(r, d) == 0 ? 1 : 0;
            services += services(r, d);
        }
        int missed = what == 8 ? times(rota(r, state.laws.get(5)), NONE, r.days) : 0;
        return new int[] {r.days, r.start, r.moon, r.spring, sundays, r.heldOn.size(), how(r, 3), services, missed}[what];
    }

    private boolean noDay(int y, int d) {
        return !in(y, 1, 999) || !in(d, 1, leap(y) ? 366 : 365);
    }

    int day(int y, int d, int what) {
        if (state == null) {
            return STATE;
        }
        if (noDay(y, d) || !in(what, 0, 5)) {
            return BAD;
        }
        Year r = full(y, -1);
        int remembered = 0;
        for (int f = 0; f < r.how.length; f++) {
            remembered += r.how[f] == 3 && r.on[f] == d ? 1 : 0;
        }
        return new int[] {weekday(r, d), r.heldOn.getOrDefault(d, NONE), rank(r, d), colour(r, d), services(r, d),
            remembered}[what];
    }

    int held(int f, int y, int what) {
        if (noFeast(f) || !in(y, 1, 999) || !in(what, 0, 2)) {
            return BAD;
        }
        Year r = full(y, -1);
        return what == 0 ? r.how[f] : what == 1 ? r.own[f] : r.on[f];
    }

    /** By DAY (from 0, which has none): the psalms that are read. */
    private List<List<Integer>> course(Year r, int each) {
        List<List<Integer>> days = new ArrayList<>();
        days.add(List.of());
        int next = 1;
        for (int d = 1; d <= r.days; d++) {
            List<Integer> today = new ArrayList<>();
            for (int i = 0; i < each && rank(r, d) <= 3; i++) {
                today.add(next);
                next = next == state.laws.get(3) ? 1 : next + 1;
            }
            days.add(today);
        }
        return days;
    }

    int psalm(int y, int d, int what) {
        if (state == null) {
            return STATE;
        }
        if (noDay(y, d) || !in(what, 0, 2)) {
            return BAD;
        }
        List<List<Integer>> days = course(full(y, -1), state.laws.get(4));
        if (what == 2) {
            return times(days, state.laws.get(3), d);
        }
        List<Integer> today = days.get(d);
        return today.isEmpty() ? NONE : today.get(what == 0 ? 0 : today.size() - 1);
    }

    int read(int y, int psalm, int k) {
        if (state == null) {
            return STATE;
        }
        if (!in(y, 1, 999) || !in(psalm, 1, state.laws.get(3)) || k < 1) {
            return BAD;
        }
        List<List<Integer>> days = course(full(y, -1), state.laws.get(4));
        int seen = 0;
        for (int d = 1; d < days.size(); d++) {
            for (int p : days.get(d)) {
                seen += p == psalm ? 1 : 0;
                if (p == psalm && seen == k) {
                    return d;
                }
            }
        }
        return NONE;
    }

    int sings(int y, int d, int i) {
        if (state == null) {
            return STATE;
        }
        if (noDay(y, d) || i < 0) {
            return BAD;
        }
        List<Integer> today = rota(full(y, -1), state.laws.get(5)).get(d);
        return i < today.size() ? today.get(i) : NONE;
    }

    int duties(int choir, int y, int d) {
        if (state == null || !in(choir, 0, state.choirs.size() - 1) || !in(y, 1, 999) || d != 0 && noDay(y, d)) {
            return BAD;
        }
        return times(rota(full(y, -1), state.laws.get(5)), choir, d);
    }

    private int gap(int y, int rule) {
        Year r = full(y, -1);
        List<List<Integer>> days = rota(r, rule);
        List<Integer> sums = new ArrayList<>();
        for (int c = 0; c < state.choirs.size(); c++) {
            sums.add(times(days, c, r.days));
        }
        sums.sort(null);
        return sums.get(sums.size() - 1) - sums.get(0);
    }

    int fair(int y) {
        if (state == null) {
            return STATE;
        }
        return in(y, 1, 999) ? gap(y, state.laws.get(5)) : BAD;
    }

    // ---- years

    int meet(int a, int b, int y) {
        if (noFeast(a) || noFeast(b) || a == b || !in(y, 1, 999)) {
            return BAD;
        }
        for (int i = 0; i < 99 && y + i <= 999; i++) {
            Year r = bare(y + i);
            int one = own(r, y + i, state.feasts.get(a));
            int two = own(r, y + i, state.feasts.get(b));
            if (one == two && one != NONE) {
                return y + i;
            }
        }
        return NONE;
    }

    int springs(int y, int n, int what) {
        if (state == null) {
            return STATE;
        }
        if (!in(y, 1, 999) || !in(n, 1, 99) || !in(what, 0, 2)) {
            return BAD;
        }
        List<Integer> dates = new ArrayList<>();
        int leaps = 0;
        for (int i = 0; i < n && y + i <= 999; i++) {
            dates.add(bare(y + i).spring - (leap(y + i) ? 1 : 0));
            leaps += leap(y + i) ? 1 : 0;
        }
        dates.sort(null);
        return what == 0 ? dates.get(0) : what == 1 ? dates.get(dates.size() - 1) : leaps;
    }

    int often(int f, int y, int n, int as) {
        if (noFeast(f) || !in(y, 1, 999) || !in(n, 1, 30) || !in(as, 0, 5)) {
            return BAD;
        }
        int sum = 0;
        for (int i = 0; i < n && y + i <= 999; i++) {
            sum += full(y + i, -1).how[f] == as ? 1 : 0;
        }
        return sum;
    }

    int enough(int y, int k) {
        if (state == null) {
            return STATE;
        }
        if (!in(y, 1, 999) || !in(k, 1, 400)) {
            return BAD;
        }
        Year r = full(y, -1);
        for (int each = 1; each <= 9; each++) {
            if (times(course(r, each), state.laws.get(3), r.days) >= k) {
                return each;
            }
        }
        return NONE;
    }

    int best(int y) {
        if (state == null) {
            return STATE;
        }
        if (!in(y, 1, 999)) {
            return BAD;
        }
        int[] gaps = {gap(y, 0), gap(y, 1), gap(y, 2)};
        return gaps[0] <= gaps[1] && gaps[0] <= gaps[2] ? 0 : gaps[1] <= gaps[2] ? 1 : 2;
    }

    int bars(int f, int y) {
        if (noFeast(f) || !in(y, 1, 999)) {
            return BAD;
        }
        int how = full(y, -1).how[f];
        int set = 0;
        for (int g = 0; g < state.feasts.size() && how > 1; g++) {
            set |= g != f && full(y, g).how[f] == 1 ? 1 << g : 0;
        }
        return set;
    }

    int image(int k) {
        if (!in(k, 0, 1)) {
            return BAD;
        }
        if (state == null) {
            return STATE;
        }
        images[k] = state;
        return 1;
    }

    int restore(int k) {
        if (!in(k, 0, 1)) {
            return BAD;
        }
        if (images[k] == null) {
            return STATE;
        }
        state = images[k];
        past = new ArrayList<>();
        return 1;
    }

    int count(int what) {
        switch (what) {
            case 0: return state == null ? 0 : state.feasts.size();
            case 1: return state == null ? 0 : state.seasons.size();
            case 2: return state == null ? 0 : state.choirs.size();
            case 3: return past.size();
            case 4: return tape.size();
            default: return BAD;
        }
    }
}
