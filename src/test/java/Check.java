/** What the tests share: telling a text, comparing answers, and the exit code. */
final class Check {
    static final int NONE = -1000000, BAD = -1000001, STATE = -1000002, FULL = -1000003;

    private int wrong = 0;
    private int asked = 0;

    void due(String call, int got, int want) {
        asked++;
        if (got != want) {
            wrong++;
            if (wrong <= 50) {
                System.out.println(call + " answered " + got + ", due is " + want);
            }
        }
    }

    void end() {
        System.out.println(asked + " answers, " + wrong + " wrong");
        if (wrong != 0) {
            System.exit(1);
        }
    }

    static void feed(FeastRota x, String text) {
        for (int i = 0; i < text.length(); i++) {
            x.feed(text.charAt(i));
        }
    }

    static int tell(FeastRota x, String text) {
        feed(x, text);
        return x.book();
    }

    static FeastRota of(String text) {
        FeastRota x = new FeastRota();
        int feasts = tell(x, text);
        if (feasts < 0) {
            throw new IllegalStateException(text + " is refused: " + feasts);
        }
        return x;
    }
}
