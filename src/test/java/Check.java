/** Counts what is not as due, and makes objects from texts. */
final class Check {
    private static final int MOST_SHOWN = 20;

    private final String name;
    private int wrong;
    private int all;

    Check(String name) {
        this.name = name;
    }

    void due(String what, long got, long want) {
        all++;
        if (got != want) {
            wrong++;
            if (wrong > MOST_SHOWN) {
                return;
            }
            System.out.println(name + ": " + what + " answered " + got + ", due is " + want);
        }
    }

    void due(String what, boolean got, boolean want) {
        due(what, got ? 1 : 0, want ? 1 : 0);
    }

    /** What lies there is just this. */
    void lies(String what, NettleGreen green, int... want) {
        due(what + ", numbers that lie there", green.about(12), want.length);
        for (int i = 0; i < want.length; i++) {
            due(what + ", lies(" + i + ")", green.lies(i), want[i]);
        }
        due(what + ", lies behind the last", green.lies(want.length), -2);
    }

    void end() {
        System.out.println(name + ": " + (wrong == 0 ? "all " + all + " answers are as due" : wrong + " of " + all + " answers are not as due"));
        if (wrong != 0) {
            System.exit(1);
        }
    }

    static void put(NettleGreen green, String text) {
        for (int i = 0; i < text.length(); i += 20) {
            int[] n = new int[5];
            for (int j = 0; j < 20; j++) {
                n[j / 4] = n[j / 4] << 8 | (i + j < text.length() ? text.charAt(i + j) : 0);
            }
            green.feed(n[0], n[1], n[2], n[3], n[4]);
        }
        green.end(text.length());
    }

    /** A new object with this hamlet; a text that is refused is a fault of the test. */
    NettleGreen told(String text) {
        NettleGreen green = new NettleGreen();
        put(green, text);
        int people = green.hamlet();
        due("fault of " + text + " (hamlet answered " + people + ", place " + green.fault(1) + ")", green.fault(0), 0);
        return green;
    }
}
