import java.util.ArrayList;
import java.util.List;
import java.util.function.ToIntFunction;

/**
 * "What is refused changes nothing." Each sort of refused call is made on an object; then the object is looked at from all
 * sides, beside a twin on which the call was not made. Each look takes objects of its own, as some of them change the object
 * (all is undone, an image restored, the tape read), and none goes beyond 512 calls.
 */
public final class EdgeRefusedTest {
    private static final Check CHECK = new Check();
    private static final int LOOKS = 5;
    private static final int LEAST = Integer.MIN_VALUE, MOST = Integer.MAX_VALUE;

    private record Refusal(String name, int due, ToIntFunction<FeastRota> call) { }

    private interface Maker {
        FeastRota make();
    }

    public static void main(String[] args) {
        CHECK.due("acts of the object in use", inUse().count(3), 16);
        CHECK.due("its fault", inUse().fault(), 3);
        CHECK.due("bytes of the full one", full().count(4), 160);
        CHECK.due("its feasts", full().count(0), 12);
        refused("no book", EdgeRefusedTest::withoutABook, ofNoBook());
        refused("all is full", EdgeRefusedTest::full, ofAllThatIsFull());
        refused("in use", EdgeRefusedTest::inUse, ofNumbers());
        CHECK.end();
    }

    /** No BOOK, no IMAGE, a FAULT of number 2, and three bytes on the tape. */
    private static FeastRota withoutABook() {
        FeastRota x = new FeastRota();
        Check.tell(x, "k3");
        Check.feed(x, "k0,");
        return x;
    }

    /** Twelve FEASTS, four SEASONS, a full tape that is a BOOK; no ACT, and only IMAGE 0. */
    private static FeastRota full() {
        FeastRota x = Check.of("k1,2,3;" + "d5,4,1;".repeat(6) + "f3,2,2;".repeat(6) + "z0,6,3;z6,0,4;z1,2,5;z5,6,6;p20,3;c2,1;");
        x.image(0);
        Check.feed(x, "k0,0,0;" + "d001,1,1;".repeat(10) + "d01,1,1;".repeat(2) + "z00,01,1;".repeat(4) + "p10,1;c2,0;");
        return x;
    }

    /** Sixteen ACTS, both IMAGES, a FAULT of number 3 and three bytes on the tape. */
    private static FeastRota inUse() {
        FeastRota x = new FeastRota();
        Check.tell(x, "k1,2,3;" + "d5,4,1;".repeat(13));
        Check.tell(x, "k1,2,3;b46,4,3;f0,5,1;n30,3,4;d105,2,5;z0,1,2;p50,3;c4,0;");
        x.image(0);
        x.away(1, 100, 200);
        x.law(0, 2);
        x.image(1);
        for (int which = 0; which <= 5; which++) {
            x.law(which, which == 3 ? 60 : 2);
        }
        x.add(3, 365, 4, 6);
        for (int which = 0; which <= 3; which++) {
            x.alter(2, which, 3);
        }
        x.away(0, 3, 9);
        x.away(3, 60, 366);
        x.away(1, 10, 30);
        Check.feed(x, "k0,");
        return x;
    }

    private static List<Integer> look(FeastRota x) {
        List<Integer> seen = new ArrayList<>();
        for (int what = 0; what <= 4; what++) {
            seen.add(x.count(what));
        }
        seen.add(x.fault());
        for (int i = 0; i < 48; i++) {
            seen.add(x.feast(i / 4, i % 4));
        }
        for (int what = 0; what <= 8; what++) {
            seen.add(x.year(1, what));
            seen.add(x.year(100, what));
        }
        for (int d : new int[] {3, 5, 10, 50, 100, 106, 120, 365}) {
            seen.add(x.day(1, d, 3));
            seen.add(x.sings(1, d, 0));
            seen.add(x.duties(0, 1, d));
            seen.add(x.duties(1, 1, d));
        }
        seen.add(x.psalm(1, 3, 1));
        for (int psalm : new int[] {10, 11, 20, 21, 50, 51, 60, 61}) {
            seen.add(x.read(1, psalm, 1));
        }
        seen.add(x.best(1));
        return seen;
    }

    /** The answers of one of the looks; each of them is made on an object of its own. */
    private static List<Integer> lookFrom(FeastRota x, int side) {
        List<Integer> seen = new ArrayList<>();
        switch (side) {
            case 0: break;
            case 1:
                for (int i = 0; i <= 16; i++) {
                    seen.add(x.undo());
                }
                break;
            case 2: seen.add(x.restore(0)); break;
            case 3: seen.add(x.restore(1)); break;
            default: seen.add(x.book()); break;
        }
        seen.addAll(look(x));
        return seen;
    }

    private static void refused(String where, Maker maker, List<Refusal> refusals) {
        for (int side = 0; side < LOOKS; side++) {
            List<Integer> want = lookFrom(maker.make(), side);
            for (Refusal refusal : refusals) {
                FeastRota x = maker.make();
                String name = where + ": " + refusal.name;
                CHECK.due(name, refusal.call.applyAsInt(x), refusal.due);
                List<Integer> got = lookFrom(x, side);
                for (int i = 0; i < want.size(); i++) {
                    CHECK.due(name + " changes what is seen from side " + side + ", look " + i, got.get(i), want.get(i));
                }
            }
        }
    }

    private static List<Refusal> ofNoBook() {
        List<Refusal> all = new ArrayList<>();
        all.add(new Refusal("feed", Check.BAD, x -> x.feed(256)));
        all.add(new Refusal("undo", Check.STATE, x -> x.undo()));
        all.add(new Refusal("alter", Check.BAD, x -> x.alter(0, 2, 1)));
        all.add(new Refusal("add", Check.STATE, x -> x.add(3, 1, 1, 1)));
        all.add(new Refusal("law", Check.STATE, x -> x.law(1, 1)));
        all.add(new Refusal("away", Check.BAD, x -> x.away(0, 1, 2)));
        all.add(new Refusal("feast", Check.BAD, x -> x.feast(0, 0)));
        all.add(new Refusal("year", Check.STATE, x -> x.year(1, 8)));
        all.add(new Refusal("day", Check.STATE, x -> x.day(1, 1, 1)));
        all.add(new Refusal("held", Check.BAD, x -> x.held(0, 1, 0)));
        all.add(new Refusal("psalm", Check.STATE, x -> x.psalm(1, 1, 0)));
        all.add(new Refusal("read", Check.STATE, x -> x.read(1, 1, 1)));
        all.add(new Refusal("sings", Check.STATE, x -> x.sings(1, 1, 0)));
        all.add(new Refusal("duties", Check.BAD, x -> x.duties(0, 1, 1)));
        all.add(new Refusal("fair", Check.STATE, x -> x.fair(1)));
        all.add(new Refusal("meet", Check.BAD, x -> x.meet(0, 1, 1)));
        all.add(new Refusal("springs", Check.STATE, x -> x.springs(1, 1, 0)));
        all.add(new Refusal("often", Check.BAD, x -> x.often(0, 1, 1, 1)));
        all.add(new Refusal("enough", Check.STATE, x -> x.enough(1, 1)));
        all.add(new Refusal("best", Check.STATE, x -> x.best(1)));
        all.add(new Refusal("bars", Check.BAD, x -> x.bars(0, 1)));
        all.add(new Refusal("image", Check.STATE, x -> x.image(0)));
        all.add(new Refusal("restore", Check.STATE, x -> x.restore(0)));
        all.add(new Refusal("restore", Check.BAD, x -> x.restore(2)));
        all.add(new Refusal("count", Check.BAD, x -> x.count(5)));
        return all;
    }

    private static List<Refusal> ofAllThatIsFull() {
        List<Refusal> all = new ArrayList<>();
        all.add(new Refusal("feed", Check.FULL, x -> x.feed(';')));
        all.add(new Refusal("feed, no byte", Check.BAD, x -> x.feed(-1)));
        all.add(new Refusal("add", Check.FULL, x -> x.add(3, 1, 5, 6)));
        all.add(new Refusal("add, no kind", Check.BAD, x -> x.add(4, 1, 5, 6)));
        all.add(new Refusal("undo", Check.STATE, x -> x.undo()));
        all.add(new Refusal("restore", Check.STATE, x -> x.restore(1)));
        all.add(new Refusal("alter 12", Check.BAD, x -> x.alter(12, 2, 1)));
        all.add(new Refusal("away 2", Check.BAD, x -> x.away(2, 0, 366)));
        return all;
    }

    private static List<Refusal> ofNumbers() {
        List<Refusal> all = new ArrayList<>();
        for (int bad : new int[] {-1, LEAST, MOST}) {
            all.add(new Refusal("feed", Check.BAD, x -> x.feed(bad)));
            all.add(new Refusal("alter feast", Check.BAD, x -> x.alter(bad, 2, 1)));
            all.add(new Refusal("alter which", Check.BAD, x -> x.alter(0, bad, 1)));
            for (int which = 0; which <= 3; which++) {
                int mark = which;
                all.add(new Refusal("alter v", Check.BAD, x -> x.alter(0, mark, bad)));
            }
            all.add(new Refusal("add kind", Check.BAD, x -> x.add(bad, 1, 1, 1)));
            all.add(new Refusal("add N", Check.BAD, x -> x.add(3, bad, 1, 1)));
            all.add(new Refusal("add rank", Check.BAD, x -> x.add(3, 1, bad, 1)));
            all.add(new Refusal("add colour", Check.BAD, x -> x.add(3, 1, 1, bad)));
            all.add(new Refusal("law which", Check.BAD, x -> x.law(bad, 1)));
            for (int which = 0; which <= 5; which++) {
                int law = which;
                all.add(new Refusal("law v", Check.BAD, x -> x.law(law, bad)));
            }
            all.add(new Refusal("away choir", Check.BAD, x -> x.away(bad, 1, 2)));
            all.add(new Refusal("away from", Check.BAD, x -> x.away(0, bad, 2)));
            all.add(new Refusal("away to", Check.BAD, x -> x.away(0, 1, bad)));
            all.add(new Refusal("image", Check.BAD, x -> x.image(bad)));
            all.add(new Refusal("restore", Check.BAD, x -> x.restore(bad)));
            all.add(new Refusal("count", Check.BAD, x -> x.count(bad)));
            askedOf(all, bad);
        }
        all.add(new Refusal("alter N", Check.BAD, x -> x.alter(0, 1, 100)));
        all.add(new Refusal("alter KIND, as N is 105", Check.BAD, x -> x.alter(3, 0, 0)));
        all.add(new Refusal("alter KIND, as N is 0", Check.BAD, x -> x.alter(1, 0, 3)));
        all.add(new Refusal("away from 367", Check.BAD, x -> x.away(0, 367, 2)));
        all.add(new Refusal("away to 367", Check.BAD, x -> x.away(0, 2, 367)));
        all.add(new Refusal("away choir 4", Check.BAD, x -> x.away(4, 1, 2)));
        all.add(new Refusal("image 2", Check.BAD, x -> x.image(2)));
        all.add(new Refusal("restore 2", Check.BAD, x -> x.restore(2)));
        return all;
    }

    private static void askedOf(List<Refusal> all, int bad) {
        all.add(new Refusal("feast", Check.BAD, x -> x.feast(bad, 0)));
        all.add(new Refusal("year", Check.BAD, x -> x.year(bad, 8)));
        all.add(new Refusal("day", Check.BAD, x -> x.day(1, bad, 1)));
        all.add(new Refusal("held", Check.BAD, x -> x.held(0, bad, 0)));
        all.add(new Refusal("psalm", Check.BAD, x -> x.psalm(1, bad, 0)));
        all.add(new Refusal("read", Check.BAD, x -> x.read(1, bad, 1)));
        all.add(new Refusal("sings", Check.BAD, x -> x.sings(1, bad, 0)));
        all.add(new Refusal("duties", Check.BAD, x -> x.duties(0, 1, bad)));
        all.add(new Refusal("fair", Check.BAD, x -> x.fair(bad)));
        all.add(new Refusal("meet", Check.BAD, x -> x.meet(0, bad, 1)));
        all.add(new Refusal("springs", Check.BAD, x -> x.springs(1, bad, 0)));
        all.add(new Refusal("often", Check.BAD, x -> x.often(0, 1, bad, 1)));
        all.add(new Refusal("enough", Check.BAD, x -> x.enough(1, bad)));
        all.add(new Refusal("best", Check.BAD, x -> x.best(bad)));
        all.add(new Refusal("bars", Check.BAD, x -> x.bars(0, bad)));
    }
}
