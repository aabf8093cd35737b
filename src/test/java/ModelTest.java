/** Made-up runs of calls, each answered by the class and by the model. The numbers come from a fixed sequence. */
public final class ModelTest {
    private static final Check CHECK = new Check();
    private static final int[] ODD = {Integer.MIN_VALUE, Integer.MAX_VALUE, -1, 1000, 367, 12};
    private static long seed = 20261117L;

    private FeastRota mine;
    private Model model;

    public static void main(String[] args) {
        int runs = args.length > 0 ? Integer.parseInt(args[0]) : 150;
        for (int run = 0; run < runs; run++) {
            new ModelTest().oneRun(run);
        }
        CHECK.end();
    }

    /** A number from 0 to many - 1. */
    private static int roll(int many) {
        seed = seed * 6364136223846793005L + 1442695040888963407L;
        return (int) ((seed >>> 33) % many);
    }

    /** From low to high, now and then one beside it or far off. */
    private static int pick(int low, int high) {
        int r = roll(60);
        if (r == 0) {
            return low - 1;
        }
        if (r == 1) {
            return high + 1;
        }
        if (r == 2) {
            return ODD[roll(ODD.length)];
        }
        return r < 6 ? low : r < 9 ? high : low + roll(high - low + 1);
    }

    private static int good(int low, int high) {
        return low + roll(high - low + 1);
    }

    private void oneRun(int run) {
        mine = new FeastRota();
        model = new Model();
        int calls = 0;
        if (roll(10) > 0) {
            calls += tell(run, madeUp(false));
        }
        boolean crowded = roll(2) == 0;
        for (int i = 0; i < 120 && calls <= 510; i++) {
            if (roll(40) == 0) {
                String text = madeUp(true);
                calls += calls + text.length() + 2 <= 512 ? tell(run, text) : 0;
            } else {
                oneCall(run, roll(25), crowded);
                // some make two
                calls += 2;
            }
        }
    }

    private int tell(int run, String text) {
        for (int i = 0; i < text.length(); i++) {
            int c = text.charAt(i);
            CHECK.due(run + ": feed", mine.feed(c), model.feed(c));
        }
        CHECK.due(run + ": book " + text, mine.book(), model.book());
        CHECK.due(run + ": fault " + text, mine.fault(), model.fault());
        return text.length() + 2;
    }

    private static String madeUp(boolean spoil) {
        StringBuilder s = new StringBuilder();
        s.append('k').append(good(0, 2)).append(',').append(good(0, 29)).append(',').append(good(0, 6)).append(';');
        int feasts = roll(13);
        int middle = good(1, 365);
        for (int f = 0; f < feasts; f++) {
            int kind = roll(4);
            int n = kind < 2 ? good(0, 99) : roll(2) == 0 ? good(1, 365) : Math.min(365, middle + roll(3));
            s.append("bfnd".charAt(kind)).append(n).append(',').append(good(1, 5)).append(',').append(good(1, 6)).append(';');
        }
        int seasons = feasts < 2 ? 0 : roll(5);
        for (int i = 0; i < seasons; i++) {
            int from = roll(feasts);
            int to = (from + 1 + roll(feasts - 1)) % feasts;
            s.append('z').append(from).append(',').append(to).append(',').append(good(1, 6)).append(';');
        }
        s.append('p').append(good(10, roll(2) == 0 ? 20 : 150)).append(',').append(good(1, 9)).append(';');
        s.append('c').append(good(2, 5)).append(',').append(good(0, 2)).append(';');
        if (spoil && roll(3) > 0) {
            spoil(s);
        }
        return s.toString();
    }

    private static void spoil(StringBuilder s) {
        String signs = "kbfndzpca,;0123456789 A" + (char) 0 + (char) 255;
        int at = roll(s.length());
        char c = signs.charAt(roll(signs.length()));
        switch (roll(5)) {
            case 0: s.setCharAt(at, c); break;
            case 1: s.insert(at, c); break;
            case 2: s.deleteCharAt(at); break;
            case 3: s.setLength(at); break;
            default: s.insert(at, s.substring(at)); break;
        }
    }

    private int feast() {
        return pick(0, Math.max(0, model.count(0) - 1));
    }

    private int choir() {
        return pick(0, Math.max(0, model.count(2) - 1));
    }

    private static int someYear() {
        return roll(3) == 0 ? pick(1, 12) : pick(1, 999);
    }

    private int someDay(int y) {
        int days = model.year(y, 0);
        int crowdedAt = model.count(0) > 0 ? model.held(roll(model.count(0)), y, 1) : 0;
        return roll(2) == 0 && crowdedAt > 0 ? crowdedAt + roll(4) - 1 : pick(1, Math.max(1, days));
    }

    private void oneCall(int run, int which, boolean crowded) {
        int y = someYear();
        if (which < 9) {
            act(run, which, crowded);
        } else if (which < 17) {
            askYear(run, which, y);
        } else {
            askYears(run, which, y);
        }
    }

    private void act(int run, int which, boolean crowded) {
        switch (which) {
            case 0: CHECK.due(run + ": undo", mine.undo(), model.undo()); break;
            case 1: {
                int f = feast();
                int w = pick(0, 3);
                int v = w == 0 ? pick(0, 3) : w == 1 ? pick(0, roll(2) == 0 ? 99 : 365) : w == 2 ? pick(1, 5) : pick(1, 6);
                CHECK.due(run + ": alter", mine.alter(f, w, v), model.alter(f, w, v));
                break;
            }
            case 2: {
                int k = pick(0, 3);
                int n = k < 2 ? pick(0, 99) : crowded ? pick(358, 365) : pick(1, 365);
                int r = pick(1, 5);
                int c = pick(1, 6);
                CHECK.due(run + ": add", mine.add(k, n, r, c), model.add(k, n, r, c));
                break;
            }
            case 3: {
                int w = pick(0, 5);
                int v = w == 3 ? pick(10, 150) : w == 1 ? pick(0, 29) : w == 4 ? pick(1, 9) : pick(0, w == 2 ? 6 : 2);
                CHECK.due(run + ": law", mine.law(w, v), model.law(w, v));
                break;
            }
            case 4: case 5: {
                int c = choir();
                int from = pick(0, roll(2) == 0 ? 366 : 30);
                int to = pick(0, 366);
                CHECK.due(run + ": away", mine.away(c, from, to), model.away(c, from, to));
                break;
            }
            case 6: {
                int f = feast();
                int w = pick(0, 3);
                CHECK.due(run + ": feast", mine.feast(f, w), model.feast(f, w));
                break;
            }
            case 7: {
                int k = pick(0, 1);
                CHECK.due(run + ": image", mine.image(k), model.image(k));
                int l = pick(0, 1);
                if (roll(4) == 0) {
                    CHECK.due(run + ": restore", mine.restore(l), model.restore(l));
                }
                break;
            }
            default: {
                int w = pick(0, 4);
                CHECK.due(run + ": count", mine.count(w), model.count(w));
            }
        }
    }

    private void askYear(int run, int which, int y) {
        int d = someDay(y);
        String at = " " + y + " " + d;
        switch (which) {
            case 9: {
                int w = pick(0, 8);
                CHECK.due(run + ": year" + at + " " + w, mine.year(y, w), model.year(y, w));
                break;
            }
            case 10: {
                int w = pick(0, 5);
                CHECK.due(run + ": day" + at + " " + w, mine.day(y, d, w), model.day(y, d, w));
                break;
            }
            case 11: {
                int w = pick(0, 2);
                int f = feast();
                CHECK.due(run + ": held" + at + " " + f + " " + w, mine.held(f, y, w), model.held(f, y, w));
                break;
            }
            case 12: {
                int w = pick(0, 2);
                CHECK.due(run + ": psalm" + at + " " + w, mine.psalm(y, d, w), model.psalm(y, d, w));
                break;
            }
            case 13: {
                int p = pick(1, roll(2) == 0 ? 10 : 150);
                int k = pick(1, roll(2) == 0 ? 5 : 330);
                CHECK.due(run + ": read" + at, mine.read(y, p, k), model.read(y, p, k));
                break;
            }
            case 14: {
                int i = pick(0, 3);
                CHECK.due(run + ": sings" + at + " " + i, mine.sings(y, d, i), model.sings(y, d, i));
                break;
            }
            case 15: {
                int c = choir();
                CHECK.due(run + ": duties" + at + " " + c, mine.duties(c, y, d), model.duties(c, y, d));
                break;
            }
            default: CHECK.due(run + ": fair" + at, mine.fair(y), model.fair(y));
        }
    }

    private void askYears(int run, int which, int y) {
        switch (which) {
            case 17: {
                int a = feast();
                int b = feast();
                CHECK.due(run + ": meet", mine.meet(a, b, y), model.meet(a, b, y));
                break;
            }
            case 18: {
                int n = pick(1, 99);
                int w = pick(0, 2);
                CHECK.due(run + ": springs", mine.springs(y, n, w), model.springs(y, n, w));
                break;
            }
            case 19: case 20: {
                int f = feast();
                int n = pick(1, 30);
                int as = pick(0, 5);
                CHECK.due(run + ": often", mine.often(f, y, n, as), model.often(f, y, n, as));
                break;
            }
            case 21: {
                int k = pick(1, roll(2) == 0 ? 400 : 30);
                CHECK.due(run + ": enough", mine.enough(y, k), model.enough(y, k));
                break;
            }
            case 22: CHECK.due(run + ": best " + y, mine.best(y), model.best(y)); break;
            default: {
                int f = feast();
                CHECK.due(run + ": bars " + f + " " + y, mine.bars(f, y), model.bars(f, y));
            }
        }
    }
}
