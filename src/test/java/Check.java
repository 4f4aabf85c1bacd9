/** Counts answers that are not as due, and feeds texts as a caller does. */
final class Check {
    private int wrong = 0;
    private int asked = 0;
    private String sentence = "";

    interface Call {
        int of(DeafSpot x);
    }

    /** What is asked from here on is about these words of the document; " .. " stands for some left out. */
    void sentence(String words) {
        sentence = words;
    }

    void due(String call, long got, long want) {
        asked++;
        if (got != want) {
            wrong++;
            if (wrong <= 50) {
                System.out.println(call + " answered " + got + ", due is " + want + (sentence.isEmpty() ? "" : ", as '" + sentence + "'"));
            }
        }
    }

    void due(String call, boolean got, boolean want) {
        due(call, got ? 1 : 0, want ? 1 : 0);
    }

    int wrong() {
        return wrong;
    }

    void finish() {
        System.out.println(asked + " answers, " + wrong + " not as due");
        if (wrong != 0 || asked == 0) {
            System.exit(1);
        }
    }

    /** A call answers so, and nothing has changed behind it. */
    void still(String call, DeafSpot x, Call asked, int want) {
        String before = Whole.of(x);
        due(call, asked.of(x), want);
        String behind = Whole.of(x);
        due(call + ": all is as it was: " + before + " became " + behind, before.equals(behind), true);
    }

    /** A new object with a hall and laws, all of which must be in order. */
    DeafSpot with(String hall, String... laws) {
        DeafSpot x = new DeafSpot();
        due("hall of " + hall, hall(x, hall) >= 0, true);
        for (int i = 0; i < laws.length; i++) {
            due("law of " + laws[i], law(x, laws[i]), i);
        }
        return x;
    }

    /** The answer to a text with a fault. */
    static int fault(int place, int kind) {
        return -2 - (1 + 8 * place + kind);
    }

    /** The five numbers of the k-th feed of a text. */
    static int[] numbers(String text, int k) {
        int[] numbers = new int[5];
        for (int i = 0; i < 20; i++) {
            int at = 20 * k + i;
            int sign = at < text.length() ? text.charAt(at) & 255 : 0;
            numbers[i / 4] = numbers[i / 4] << 8 | sign;
        }
        return numbers;
    }

    /** Puts a text, and nothing else, on the tape. */
    static void tape(DeafSpot spot, String text) {
        spot.end(0);
        for (int k = 0; 20 * k < text.length(); k++) {
            int[] n = numbers(text, k);
            spot.feed(n[0], n[1], n[2], n[3], n[4]);
        }
        spot.end(text.length());
    }

    static int hall(DeafSpot spot, String text) {
        tape(spot, text);
        return spot.hall();
    }

    static int law(DeafSpot spot, String text) {
        tape(spot, text);
        return spot.law();
    }
}
