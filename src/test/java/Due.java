import java.nio.charset.StandardCharsets;

/** Counts the answers that are not as due, and tells a house its rules. */
final class Due {
    private int wrong;
    private String sentence = "";

    /** The words of the document that the answers from here on are due by. */
    void by(String words) {
        sentence = "'" + words + "': ";
    }

    void is(String call, long got, long want) {
        if (got != want) {
            wrong++;
            System.out.println(sentence + call + " answered " + got + ", due is " + want);
        }
    }

    void is(String call, boolean got, boolean want) {
        is(call, got ? 1 : 0, want ? 1 : 0);
    }

    void finish() {
        System.out.println(wrong == 0 ? "all answers are as due" : wrong + " answers are not as due");
        if (wrong != 0) {
            System.exit(1);
        }
    }

    /** Feeds a text, whole, to an empty tape. */
    static void feed(DebateHouse house, String text) {
        byte[] bytes = text.getBytes(StandardCharsets.ISO_8859_1);
        for (int at = 0; at < bytes.length; at += 20) {
            int[] five = new int[5];
            for (int i = 0; i < 20; i++) {
                int next = at + i < bytes.length ? bytes[at + i] & 255 : 0;
                five[i / 4] |= next << (24 - 8 * (i % 4));
            }
            house.feed(five[0], five[1], five[2], five[3], five[4]);
        }
        house.end(bytes.length);
    }

    static int rules(DebateHouse house, String text) {
        feed(house, text);
        return house.rules();
    }

    /** A house with rules, in which members 0 to n - 1 are there: acts 0 to n - 1. */
    static DebateHouse house(String text, int n) {
        DebateHouse house = new DebateHouse();
        int fault = rules(house, text);
        if (fault != 0) {
            throw new IllegalStateException("fault " + fault + " in: " + text);
        }
        for (int m = 0; m < n; m++) {
            house.act(0, m, 0, 0, 0);
        }
        return house;
    }
}
