/** Counts answers that are not as due, and feeds texts as a caller does. */
final class Check {
    private int wrong = 0;
    private int asked = 0;

    void due(String call, long got, long want) {
        asked++;
        if (got != want) {
            wrong++;
            if (wrong <= 50) {
                System.out.println(call + " answered " + got + ", due is " + want);
            }
        }
    }

    void due(String call, boolean got, boolean want) {
        due(call, got ? 1 : 0, want ? 1 : 0);
    }

    int wrong() {
        return wrong;
    }

    void finish() {
        System.out.println(asked + " answers, " + wrong + " not as due");
        if (wrong != 0 || asked == 0) {
            System.exit(1);
        }
    }

    /** The five numbers of the k-th feed of a text. */
    static int[] numbers(String text, int k) {
        int[] numbers = new int[5];
        for (int i = 0; i < 20; i++) {
            int at = 20 * k + i;
            int sign = at < text.length() ? text.charAt(at) & 255 : 0;
            numbers[i / 4] = numbers[i / 4] << 8 | sign;
        }
        return numbers;
    }

    /** Puts a text, and nothing else, on the tape. */
    static void tape(DeafSpot spot, String text) {
        spot.end(0);
        for (int k = 0; 20 * k < text.length(); k++) {
            int[] n = numbers(text, k);
            spot.feed(n[0], n[1], n[2], n[3], n[4]);
        }
        spot.end(text.length());
    }

    static int hall(DeafSpot spot, String text) {
        tape(spot, text);
        return spot.hall();
    }

    static int law(DeafSpot spot, String text) {
        tape(spot, text);
        return spot.law();
    }
}
