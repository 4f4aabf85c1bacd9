/** The bounds of the language of halls: of each sentence the last text that is taken and the first that is refused. */
public final class HallBoundsTest {
    private static final Check CHECK = new Check();

    public static void main(String[] args) {
        bytesAtMost();
        clausesAtMost();
        columns();
        rows();
        hallOnceAndFirst();
        guestSeat();
        guestWarm();
        guestSort();
        fanSeat();
        fanWay();
        fanStrength();
        snowSeat();
        snowCold();
        spotSeat();
        spotOnce();
        spotUntold();
        warmSeat();
        warmHeat();
        warmLastTold();
        guestsAtMost();
        unlikeSeats();
        fansAtMost();
        snowsAtMost();
        inTheOrderTold();
        heatUntold();
        firstAlongTheText();
        wrongBytes();
        wrongWords();
        ends();
        digits();
        notOfTheHall();
        clauseTooMany();
        secondHall();
        secondSpot();
        aheadOfTheHall();
        taken();
        ofOnePlaceTheLeast();
        blanks();
        allStays();
        CHECK.finish();
    }

    private static void sentence(String words) {
        CHECK.sentence(words);
    }

    private static void due(String call, long got, long want) {
        CHECK.due(call, got, want);
    }

    private static String times(String text, int n) {
        return text.repeat(n);
    }

    private static String padded(String text, int length) {
        return text + times(" ", length - text.length());
    }

    /** A text that is taken; answers the object, for further questions. */
    private static DeafSpot good(String text, int guests) {
        DeafSpot x = new DeafSpot();
        due("hall of '" + text + "'", Check.hall(x, text), guests);
        due("tape behind '" + text + "'", x.count(14), 0);
        return x;
    }

    private static DeafSpot good(String text) {
        return good(text, 0);
    }

    private static void bad(String text, int place, int kind) {
        DeafSpot x = new DeafSpot();
        due("hall of '" + text + "'", Check.hall(x, text), Check.fault(place, kind));
        due("no hall behind '" + text + "'", x.count(0), 0);
        due("tape behind '" + text + "'", x.count(14), 0);
    }

    private static void bytesAtMost() {
        sentence("A HALL is a text of at most 400 bytes");
        good(padded("hall 1 1", 399));
        good(padded("hall 1 1", 400));
        DeafSpot x = good(times(" ", 392) + "hall 2 3");
        due("columns", x.count(0), 2);
        due("rows", x.count(1), 3);
        Check.tape(x, padded("hall 1 1", 400));
        due("a byte more does not come", x.feed(0x20000000, 0, 0, 0, 0), -1);
        due("end(401)", x.end(401), -1);
        due("the 400 are a hall", x.hall(), 0);
        due("columns", x.count(0), 1);
        bad(padded("hall 1 1", 399) + "!", 399, 0);
        bad(padded("hall 1 1", 399) + ";", 400, 0);
        bad(times(" ", 400), 400, 0);
    }

    private static void clausesAtMost() {
        sentence("CLAUSE { ; CLAUSE }, 32 at most");
        String all = "hall 1 1";
        for (int clauses = 1; clauses <= 32; clauses++) {
            good(all);
            all += ";warm 0 0 1";
        }
        bad(all, "hall 1 1".length() + 31 * ";warm 0 0 1".length() + 1, 4);
        bad("", 0, 0);
        bad(";", 0, 0);
        bad("hall 1 1;", 9, 0);
        bad("hall 1 1;;warm 0 0 1", 9, 0);
        bad("hall 1 1;warm 0 0 1;", 20, 0);
    }

    private static void columns() {
        sentence("hall NUMBER NUMBER (columns 1 to 10, rows 1 to 8");
        for (int n = 1; n <= 10; n++) {
            DeafSpot x = good("hall " + n + " 1");
            due("columns", x.count(0), n);
            due("the last one", x.seat(n - 1, 0, 0), 0);
            due("beyond it", x.seat(n, 0, 0), -1);
        }
        bad("hall 0 1", 5, 1);
        bad("hall 11 1", 5, 1);
        bad("hall 99999 1", 5, 1);
        bad("hall -1 1", 5, 0);
    }

    private static void rows() {
        sentence("hall NUMBER NUMBER (columns 1 to 10, rows 1 to 8");
        for (int n = 1; n <= 8; n++) {
            DeafSpot x = good("hall 10 " + n);
            due("rows", x.count(1), n);
            due("the last one", x.seat(9, n - 1, 0), 0);
            due("beyond it", x.seat(9, n, 0), -1);
        }
        bad("hall 10 0", 8, 1);
        bad("hall 10 9", 8, 1);
        bad("hall 1 10", 7, 1);
        bad("hall 1 99999", 7, 1);
    }

    private static void hallOnceAndFirst() {
        sentence("once, the first CLAUSE");
        good("hall 1 1");
        bad("hall 1 1;hall 1 1", 9, 4);
        bad("warm 0 0 1;hall 1 1", 0, 4);
        bad("warm 0 0 1", 0, 4);
    }

    /** A clause's x and y: the corners are taken, the first seats beyond are refused, at x or at y. */
    private static void seatOf(String word, String rest, int guests) {
        String clause = ";" + word + " ";
        for (int[] size : new int[][] {{1, 1}, {10, 1}, {1, 8}, {10, 8}, {3, 2}}) {
            String hall = "hall " + size[0] + " " + size[1];
            int x = hall.length() + clause.length();
            int right = size[0] - 1;
            int last = size[1] - 1;
            good(hall + clause + "0 0" + rest, guests);
            good(hall + clause + right + " 0" + rest, guests);
            good(hall + clause + "0 " + last + rest, guests);
            good(hall + clause + right + " " + last + rest, guests);
            bad(hall + clause + size[0] + " 0" + rest, x, 1);
            bad(hall + clause + size[0] + " " + size[1] + rest, x, 1);
            bad(hall + clause + "0 " + size[1] + rest, x + 2, 1);
            bad(hall + clause + right + " " + size[1] + rest, x + 2, 1);
            bad(hall + clause + "-1 0" + rest, x, 0);
            bad(hall + clause + "0 -1" + rest, x + 2, 0);
            bad(hall + clause + "99999 0" + rest, x, 1);
            bad(hall + clause + "0 99999" + rest, x + 2, 1);
        }
    }

    /** A clause's number at its end: the least and the most are taken, and told by a question; one less, one more not. */
    private static void numberOf(String clause, int least, int most, String rest, Check.Call told) {
        String text = "hall 3 2;" + clause;
        int guests = clause.indexOf("guest") >= 0 ? 1 : 0;
        due("the least of " + clause, told.of(good(text + least + rest, guests)), least);
        due("the most of " + clause, told.of(good(text + most + rest, guests)), most);
        if (least > 0) {
            bad(text + (least - 1) + rest, text.length(), 1);
        }
        bad(text + "-" + least + rest, text.length(), 0);
        bad(text + (most + 1) + rest, text.length(), 1);
        bad(text + "99999" + rest, text.length(), 1);
    }

    private static void guestSeat() {
        sentence("guest NUMBER NUMBER NUMBER NUMBER (x, y, WARM 0 to 99, sort 0 to 9)");
        seatOf("guest", " 1 1", 1);
        DeafSpot x = good("hall 10 8;guest 9 7 1 1", 1);
        due("x", x.guest(0, 0), 9);
        due("y", x.guest(0, 1), 7);
    }

    private static void guestWarm() {
        sentence("guest NUMBER NUMBER NUMBER NUMBER (x, y, WARM 0 to 99, sort 0 to 9)");
        numberOf("guest 0 0 ", 0, 99, " 1", x -> x.guest(0, 2));
    }

    private static void guestSort() {
        sentence("guest NUMBER NUMBER NUMBER NUMBER (x, y, WARM 0 to 99, sort 0 to 9)");
        numberOf("guest 0 0 1 ", 0, 9, "", x -> x.guest(0, 3));
        bad("hall 3 2;guest 0 0 1", 20, 0);
        bad("hall 3 2;guest 0 0 1 1 1", 23, 0);
    }

    private static void fanSeat() {
        sentence("fan NUMBER NUMBER NUMBER NUMBER (x, y, WAY 1 to 4, STRENGTH 1 to 99)");
        seatOf("fan", " 1 1", 0);
        DeafSpot x = good("hall 10 8;fan 9 7 1 1");
        due("x", x.fan(0, 0), 9);
        due("y", x.fan(0, 1), 7);
    }

    private static void fanWay() {
        sentence("fan NUMBER NUMBER NUMBER NUMBER (x, y, WAY 1 to 4, STRENGTH 1 to 99)");
        numberOf("fan 0 0 ", 1, 4, " 1", x -> x.fan(0, 2));
    }

    private static void fanStrength() {
        sentence("fan NUMBER NUMBER NUMBER NUMBER (x, y, WAY 1 to 4, STRENGTH 1 to 99)");
        numberOf("fan 0 0 1 ", 1, 99, "", x -> x.fan(0, 3));
        bad("hall 3 2;fan 0 0 1", 18, 0);
        bad("hall 3 2;fan 0 0 1 1 1", 21, 0);
    }

    private static void snowSeat() {
        sentence("snow NUMBER NUMBER NUMBER (x, y, COLD 1 to 99)");
        seatOf("snow", " 1", 0);
    }

    private static void snowCold() {
        sentence("snow NUMBER NUMBER NUMBER (x, y, COLD 1 to 99)");
        // nothing tells a snow's cold but what it melts
        numberOf("warm 0 0 200;snow 0 0 ", 1, 99, "", x -> {
            Check.law(x, "go 0");
            x.tick(0, 1);
            return x.count(11);
        });
        bad("hall 3 2;snow 0 0", 17, 0);
        bad("hall 3 2;snow 0 0 1 1", 20, 0);
    }

    private static void spotSeat() {
        sentence("spot NUMBER NUMBER (x, y; once at most, 0 0 without)");
        seatOf("spot", "", 0);
        DeafSpot x = good("hall 10 8;spot 9 7");
        due("x", x.count(7), 9);
        due("y", x.count(8), 7);
        bad("hall 3 2;spot 0", 15, 0);
        bad("hall 3 2;spot 0 0 0", 18, 0);
    }

    private static void spotOnce() {
        sentence("spot NUMBER NUMBER (x, y; once at most, 0 0 without)");
        due("x of one", good("hall 3 2;spot 2 1").count(7), 2);
        bad("hall 3 2;spot 2 1;spot 2 1", 18, 4);
        bad("hall 3 2;spot 0 0;warm 0 0 1;spot 0 0", 29, 4);
    }

    private static void spotUntold() {
        sentence("spot NUMBER NUMBER (x, y; once at most, 0 0 without)");
        DeafSpot x = good("hall 10 8;spot 9 7");
        due("hall", Check.hall(x, "hall 10 8"), 0);
        due("x without", x.count(7), 0);
        due("y without", x.count(8), 0);
    }

    private static void warmSeat() {
        sentence("warm NUMBER NUMBER NUMBER (x, y, HEAT 0 to 9999; of one SEAT the last told)");
        seatOf("warm", " 1", 0);
        due("told there", good("hall 10 8;warm 9 7 3").seat(9, 7, 0), 3);
    }

    private static void warmHeat() {
        sentence("warm NUMBER NUMBER NUMBER (x, y, HEAT 0 to 9999; of one SEAT the last told)");
        numberOf("warm 0 0 ", 0, 9999, "", x -> x.seat(0, 0, 0));
        bad("hall 3 2;warm 0 0", 17, 0);
        bad("hall 3 2;warm 0 0 1 1", 20, 0);
    }

    private static void warmLastTold() {
        sentence("warm NUMBER NUMBER NUMBER (x, y, HEAT 0 to 9999; of one SEAT the last told)");
        DeafSpot x = good("hall 3 2;warm 1 0 9999;warm 2 0 5;warm 1 0 7");
        due("the last", x.seat(1, 0, 0), 7);
        due("another seat", x.seat(2, 0, 0), 5);
        due("all", x.count(9), 12);
        due("told", x.count(16), 12);
        due("0 at last", good("hall 3 2;warm 1 0 9999;warm 1 0 0").count(16), 0);
    }

    private static String guests(int n) {
        StringBuilder text = new StringBuilder("hall 10 2");
        for (int i = 0; i < n; i++) {
            text.append(";guest ").append(i % 10).append(' ').append(i / 10).append(' ').append(i).append(" 1");
        }
        return text.toString();
    }

    private static void guestsAtMost() {
        sentence("GUESTS 0 to 11 on unlike SEATS, FANS 0 to 5, SNOWS 0 to 7, in the order told");
        for (int n = 0; n <= 12; n++) {
            DeafSpot x = good(guests(n), n);
            due("guests", x.count(2), n);
            due("one more", x.guest(n, 2), -1);
            due("the last", x.guest(n - 1, 2), n - 1);
        }
        bad(guests(13), guests(12).length() + 1, 4);
        bad(guests(12) + ";guest", guests(12).length() + 1, 4);
    }

    private static void unlikeSeats() {
        sentence("GUESTS 0 to 11 on unlike SEATS");
        good("hall 2 1;guest 0 0 1 1;guest 1 0 1 1", 2);
        bad("hall 2 1;guest 0 0 1 1;guest 0 0 1 1", 29, 5);
        bad("hall 2 1;guest 0 0 1 1;guest 1 0 1 1;guest 1 0 1 1", 43, 5);
        good("hall 2 2;guest 0 1 1 1;guest 1 0 1 1", 2);
        bad("hall 1 1;guest 0 0 1 1;guest 0 0 1 1", 29, 5);
        // fans, snows and heat may share a seat, with each other and with a guest
        good("hall 1 1;guest 0 0 1 1;fan 0 0 1 1;fan 0 0 1 1;snow 0 0 1;snow 0 0 1;spot 0 0;warm 0 0 1", 1);
    }

    private static void fansAtMost() {
        sentence("FANS 0 to 5");
        String text = "hall 1 1";
        for (int n = 0; n <= 6; n++) {
            DeafSpot x = good(text);
            due("fans", x.count(3), n);
            due("one more", x.fan(n, 3), -1);
            due("the last", x.fan(n - 1, 3), n == 0 ? -1 : n);
            text += ";fan 0 0 1 " + (n + 1);
        }
        bad(text, "hall 1 1".length() + 6 * ";fan 0 0 1 1".length() + 1, 4);
    }

    private static void snowsAtMost() {
        sentence("SNOWS 0 to 7");
        String text = "hall 1 1";
        for (int n = 0; n <= 8; n++) {
            due("snows", good(text).count(4), n);
            text += ";snow 0 0 1";
        }
        bad(text, "hall 1 1".length() + 8 * ";snow 0 0 1".length() + 1, 4);
    }

    private static void inTheOrderTold() {
        sentence("in the order told");
        DeafSpot x = good("hall 3 1;fan 2 0 1 8;guest 1 0 5 0;fan 0 0 1 9;guest 0 0 6 0", 2);
        due("guest 0", x.guest(0, 2), 5);
        due("guest 1", x.guest(1, 2), 6);
        due("fan 0", x.fan(0, 3), 8);
        due("fan 1", x.fan(1, 3), 9);
        due("who sits there", x.seat(0, 0, 1), 1);
    }

    private static void heatUntold() {
        sentence("HEAT of a SEAT is 0 at first, if it is not told.");
        DeafSpot x = good("hall 10 8;warm 9 7 9999;warm 0 0 9999");
        due("all", x.count(9), 2 * 9999);
        due("hall", Check.hall(x, "hall 10 8"), 0);
        due("nothing is left of an earlier hall", x.seat(9, 7, 0), 0);
        due("all", x.count(9), 0);
        due("told", x.count(16), 0);
    }

    private static void firstAlongTheText() {
        sentence("FAULTS, the first along the text, 1 + 8 * its place and");
        DeafSpot x = new DeafSpot();
        due("place 0, kind 0", Check.hall(x, "!"), -2 - 1);
        due("place 0, kind 4", Check.hall(x, "warm"), -2 - 5);
        due("place 5, kind 1", Check.hall(x, "hall 0 1"), -2 - (1 + 8 * 5 + 1));
        due("place 400, kind 0", Check.hall(x, times(" ", 400)), -2 - (1 + 8 * 400));
        bad("hall 11 9", 5, 1);
        bad("hall 1 9 !", 7, 1);
        bad("hall 1 ! 9", 7, 0);
        bad("hall 1 1;warm 1 1 10000;hall", 14, 1);
        bad("hall 1 1;warm 0 1 10000;hall", 16, 1);
        bad("hall 1 1;warm 0 0 10000;hall", 18, 1);
        bad("hall 1 1;warm 0 0 9999;hall !", 23, 4);
    }

    private static void wrongBytes() {
        sentence("0 a byte or word that can't stand there");
        for (int sign = 0; sign < 256; sign++) {
            char c = (char) sign;
            boolean blank = c == ' ';
            boolean digit = c >= '0' && c <= '9';
            boolean letter = c >= 'a' && c <= 'z';
            String behind = "hall 1 1" + c;
            String between = "hall" + c + "1 1";
            String second = "hall 1" + c + "1";
            String clause = "hall 1 1;" + c;
            if (blank) {
                good(c + "hall 1 1");
                good(behind);
                good(between);
                good(second);
                bad(clause, 10, 0);
            } else {
                bad(c + "hall 1 1", 0, 0);
                bad(clause, 9, 0);
                if (digit) {
                    bad(behind, 7, 1);
                    bad(second, 5, 1);
                    if (c == '0') {
                        good(between);
                    } else {
                        bad(between, 4, 1);
                    }
                } else {
                    bad(behind, c == ';' ? 9 : 8, 0);
                    bad(between, letter ? 0 : 4, 0);
                    bad(second, 6, 0);
                }
            }
        }
    }

    private static void wrongWords() {
        sentence("0 a byte or word that can't stand there");
        for (String word : new String[] {"hall", "guest", "fan", "snow", "spot", "warm"}) {
            String rest = " 0 0 1 1";
            bad("hall 1 1;" + word + "s" + rest, 9, 0);
            bad("hall 1 1;" + word.substring(1) + rest, 9, 0);
            bad("hall 1 1;" + word.substring(0, word.length() - 1) + rest, 9, 0);
            bad("hall 1 1;" + word.toUpperCase() + rest, 9, 0);
            bad("hall 1 1;" + word + word + rest, 9, 0);
        }
        // a big letter ends a word; then a number is due
        bad("hall 1 1;guestX 0 0 1 1", 14, 0);
        bad("go 1", 0, 0);
        bad("ha ll 1 1", 0, 0);
        bad("hall guest", 5, 0);
        bad("hall 1 hall", 7, 0);
    }

    private static void ends() {
        sentence("or the end (behind the last byte; also without a hall)");
        String text = "hall 2 2;guest 1 1 7 7;fan 1 0 2 3;snow 0 1 9;warm 0 0 9;spot 1 0";
        for (int end = 0; end <= text.length(); end++) {
            String part = text.substring(0, end);
            String last = part.substring(part.lastIndexOf(';') + 1);
            String[] parts = last.isEmpty() ? new String[0] : last.split(" ");
            boolean whole = parts.length == numbers(parts.length == 0 ? "" : parts[0]) + 1;
            boolean word = parts.length == 1 && numbers(parts[0]) < 0;
            if (whole) {
                good(part, end < 22 ? 0 : 1);
            } else {
                bad(part, word ? part.lastIndexOf(';') + 1 : end, 0);
                bad(part + "   ", word ? part.lastIndexOf(';') + 1 : end + 3, 0);
            }
        }
        bad("", 0, 0);
        bad(" ", 1, 0);
    }

    /** How many numbers a clause has behind its word; far below 0 for what is no word. */
    private static int numbers(String word) {
        switch (word) {
            case "hall":
            case "spot": return 2;
            case "snow":
            case "warm": return 3;
            case "guest":
            case "fan": return 4;
            default: return -9;
        }
    }

    private static void digits() {
        sentence("1 a NUMBER of more digits (5 at most)");
        DeafSpot x = good("hall 00010 00008;warm 00009 00007 09999;guest 00000 00000 00099 00009", 1);
        due("columns", x.count(0), 10);
        due("rows", x.count(1), 8);
        due("heat", x.seat(9, 7, 0), 9999);
        due("warm", x.guest(0, 2), 99);
        due("sort", x.guest(0, 3), 9);
        bad("hall 000010 8", 5, 1);
        bad("hall 10 000008", 8, 1);
        bad("hall 1 1;warm 000000 0 1", 14, 1);
        bad("hall 1 1;warm 0 000000 1", 16, 1);
        bad("hall 1 1;warm 0 0 000001", 18, 1);
        bad("hall 1 1;guest 0 0 000001 1", 19, 1);
        bad("hall 1 1;guest 0 0 1 000001", 21, 1);
        bad("hall 1 1;fan 0 0 000001 1", 17, 1);
        bad("hall 1 1;fan 0 0 1 000001", 19, 1);
        bad("hall 1 1;snow 0 0 000001", 18, 1);
        // these would go round to 1 in 32 and in 64 bits
        bad("hall 4294967297 1", 5, 1);
        bad("hall 18446744073709551617 1", 5, 1);
        bad("hall 1 " + times("0", 392) + "1", 7, 1);
    }

    private static void notOfTheHall() {
        sentence("or not as told (x, y: not of the hall; at it)");
        bad("hall 3 2;spot 3 1", 14, 1);
        bad("hall 3 2;spot   3 1", 16, 1);
        bad("hall 3 2;spot 2 2", 16, 1);
        bad("hall 3 2;spot 2   2", 18, 1);
        bad("hall 3 2;spot 1 2", 16, 1);
        good("hall 3 2;spot 2 1");
        good("hall 2 3;spot 1 2");
    }

    private static void clauseTooMany() {
        sentence("4 one CLAUSE too many .. (at its first byte)");
        String all = "hall 2 1" + times(";warm 0 0 1", 31);
        for (String word : new String[] {"hall", "guest", "fan", "snow", "spot", "warm"}) {
            bad(all + ";" + word, all.length() + 1, 4);
            bad(all + ";  " + word + " 0 0 1 1", all.length() + 3, 4);
        }
        bad(all + ";", all.length() + 1, 0);
        bad(all + "; ", all.length() + 2, 0);
        bad(all + ";worm", all.length() + 1, 0);
        good(all + "  ");
    }

    private static void secondHall() {
        sentence("a second hall or spot");
        bad("hall 1 1;hall", 9, 4);
        bad("hall 1 1;  hall 1 1", 11, 4);
        bad("hall 1 1" + times(";warm 0 0 1", 30) + ";hall 1 1", 9 + 330, 4);
    }

    private static void secondSpot() {
        sentence("a second hall or spot");
        bad("hall 1 1;spot 0 0;spot", 18, 4);
        bad("hall 1 1;spot 0 0;  spot 9 9", 20, 4);
        // the first one's fault stands ahead
        bad("hall 1 1;spot 0 1;spot 0 0", 16, 1);
    }

    private static void aheadOfTheHall() {
        sentence("another CLAUSE ahead of the hall");
        for (String word : new String[] {"guest", "fan", "snow", "spot", "warm"}) {
            bad(word + " 0 0 1 1;hall 1 1", 0, 4);
            bad("   " + word, 3, 4);
        }
    }

    private static void taken() {
        sentence("5 a GUEST where one sits already (at his x, as soon as y is told)");
        String one = "hall 2 2;guest 1 1 5 5;guest";
        bad(one + " 1 1 5 5", 29, 5);
        bad(one + "   1   1", 31, 5);
        bad(one + "1 1", 28, 5);
        bad(one + " 1 1 100 1", 29, 5);
        bad(one + " 1 1!", 29, 5);
        bad(one + " 1 1;hall", 29, 5);
        bad(one + " 1", 30, 0);
        bad(one + " 1 ", 31, 0);
        bad(one + " 1 !", 31, 0);
        bad(one + " 1 2", 31, 1);
        bad(one + " 1 000001", 31, 1);
        bad(one + " 2 1", 29, 1);
        good(one + " 1 0 5 5", 2);
        good(one + " 0 1 5 5", 2);
    }

    private static void ofOnePlaceTheLeast() {
        sentence("Of one place the least.");
        String many = "hall 10 2" + guests(12).substring(9);
        // no word at all, where a clause too many would begin
        bad(many + times(";warm 0 0 1", 19) + ";worm 0 0 1", many.length() + 19 * 11 + 1, 0);
        // six digits, where a guest sits already
        bad("hall 2 1;guest 1 0 1 1;guest 000001 0", 29, 1);
        // a guest too many, who would sit where one sits: his word stands ahead
        bad(many + ";guest 0 0 1 1", many.length() + 1, 4);
    }

    private static void blanks() {
        sentence("Blanks (32) stand between as one likes.");
        good("   hall   1   1   ;   warm   0   0   1   ;   guest   0   0   1   1   ", 1);
        good("hall1 1;warm0 0 1;guest0 0 1 1", 1);
        due("a blank parts two numbers", good("hall 1 2").count(1), 2);
        bad("hall 12", 5, 1);
        bad("hall 1\n1", 6, 0);
        bad("h all 1 1", 0, 0);
        bad("hall 1 1;wa rm 0 0 1", 9, 0);
    }

    private static void allStays() {
        sentence("-2 - its FAULT, and all stays.");
        String[] texts = {"", "hall", "hall 9 9", "hall 2 2;spot 2 2", "hall 1 1;guest 0 0 9 9;warm 0 0 77;fan 0 0 1 1;snow 0 0 1;hall",
            "hall 3 3;guest 2 2 9 9;guest 2 2 9 9", "guest 0 0 1 1"};
        for (String text : texts) {
            DeafSpot x = CHECK.with("hall 2 3;guest 1 1 5 1;fan 0 0 1 1;snow 0 1 1;warm 0 2 50;spot 1 2", "go heat", "go back");
            due("tick", x.tick(0, 3), 3);
            due("seed", x.seed(9), 0);
            String before = Whole.of(x);
            due("refused", Check.hall(x, text) < -2, true);
            due("all of '" + before + "' stays behind '" + text + "'", before.equals(Whole.of(x)), true);
            due("tape is empty then", x.count(14), 0);
        }
    }

    private static void due(String call, boolean got, boolean want) {
        CHECK.due(call, got, want);
    }
}
