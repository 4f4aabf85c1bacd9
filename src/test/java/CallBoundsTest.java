/** The bounds of the calls that tell, change and keep what there is; of each refused one the answer, and that nothing changes. */
public final class CallBoundsTest {
    private static final Check CHECK = new Check();
    private static final int LEAST = Integer.MIN_VALUE;
    private static final int MOST = Integer.MAX_VALUE;
    /** Numbers that are refused wherever a guest, a law, a seat or another small number is asked for. */
    private static final int[] WILD = {LEAST, LEAST + 1, -65536, -2, -1, 400, 65536, MOST - 1, MOST};

    public static void main(String[] args) {
        calls();
        newObject();
        feedHighestFirst();
        feedFull();
        endFirst();
        endRefused();
        hallInPlace();
        hallDrawStays();
        lawNumbers();
        lawSeventh();
        seat();
        seatNone();
        guest();
        guestAway();
        guestNone();
        fan();
        fanNone();
        sits();
        sitsAwayComes();
        sitsRefused();
        goes();
        goesRefused();
        change();
        changeRefused();
        warms();
        warmsRefused();
        tick();
        tickRefused();
        tickNoHall();
        tickAbove();
        seed();
        seedRefused();
        log();
        logNone();
        hushed();
        hushedNone();
        count();
        countNone();
        image();
        imageNone();
        imageAllBut();
        back();
        backNeverMade();
        CHECK.finish();
    }

    private static void sentence(String words) {
        CHECK.sentence(words);
    }

    private static void due(String call, long got, long want) {
        CHECK.due(call, got, want);
    }

    private static void due(String call, boolean got, boolean want) {
        CHECK.due(call, got, want);
    }

    /** An evening of which everything has something: four minutes gone, guest 2 away, bytes on the tape, image 1 made. */
    private static DeafSpot evening() {
        DeafSpot x = CHECK.with("hall 3 2;guest 0 0 16 1;guest 2 0 5 2;guest 1 1 7 3;fan 0 0 1 3;fan 2 1 4 9;snow 1 1 1;warm 1 0 40;spot 1 1",
            "go heat", "go back*9+x");
        due("tick", x.tick(0, 3), 3);
        due("image", x.image(1), 3);
        due("goes", x.goes(2), true);
        due("tick", x.tick(1, 1), 4);
        due("seed", x.seed(9), 0);
        Check.tape(x, "go y");
        return x;
    }

    private static void refused(String call, Check.Call asked, int answer) {
        CHECK.still(call, evening(), asked, answer);
    }

    private static void none(String call, Check.Call asked) {
        refused(call, asked, -1);
    }

    private static int number(boolean is) {
        return is ? 1 : 0;
    }

    private static void calls() {
        sentence("An object is used for at most 512 calls after it has been made");
        // laid out so that the last of them is the one that counts
        DeafSpot x = new DeafSpot();
        for (int call = 1; call <= 499; call++) {
            due("feed", x.feed(0x676f2078, 0, 0, 0, 0) == -1, call > 20);
        }
        due("500: end", x.end(4), 4);
        due("501: law", x.law(), 0);
        due("502: feed", x.feed(0x68616c6c, 0x20332031, 0, 0, 0), 20);
        due("503: end", x.end(8), 8);
        due("504: hall", x.hall(), 0);
        due("505: image", x.image(3), 0);
        due("506: tick", x.tick(0, 120), 120);
        due("507: seed", x.seed(5), 0);
        due("508: log", x.log(120, 0), 1);
        due("509: hushed", x.hushed(2, 0), 119);
        due("510: fanned", x.fanned(0, 10, 2, 0, 0), 1);
        due("511: back", x.back(3), 0);
        due("512: there", x.there(0, 60, 0), 2);
    }

    private static void newObject() {
        sentence("No HALL, no LAWS.");
        DeafSpot x = new DeafSpot();
        for (int what = 0; what <= 16; what++) {
            due("count(" + what + ")", x.count(what), what == 7 || what == 8 ? -1 : 0);
        }
        due("seat", x.seat(0, 0, 0), -1);
        due("guest", x.guest(0, 2), -1);
        due("fan", x.fan(0, 2), -1);
        due("log", x.log(1, 0), -1);
        due("hushed", x.hushed(0, 0), -1);
        for (int k = 0; k <= 3; k++) {
            due("back(" + k + ")", x.back(k), -1);
        }
        due("hall", Check.hall(x, "hall 1 1"), 0);
        due("no law", x.tick(0, 1), -1);
        due("no law", x.there(0, 0, 0), -1);
        due("law", Check.law(x, "go 0"), 0);
        due("with both", x.there(0, 0, 0), 0);
    }

    private static void feedHighestFirst() {
        sentence("Twenty bytes come behind the TAPE, of each number the highest first: how many it has");
        DeafSpot x = new DeafSpot();
        // "hall 4 3;warm 3 2 77", each number with a byte of its own at each place
        due("feed", x.feed(0x68616c6c, 0x20342033, 0x3b776172, 0x6d203320, 0x32203737), 20);
        due("hall", x.hall(), 0);
        due("columns", x.count(0), 4);
        due("rows", x.count(1), 3);
        due("heat", x.seat(3, 2, 0), 77);
        // a number below 0 has its highest byte above 127
        due("feed", x.feed(0x68616c6c, 0x20312031, -1, LEAST, MOST), 20);
        due("end", x.end(9), 9);
        due("hall", x.hall(), Check.fault(8, 0));
        // zeros are bytes too, and no blanks
        due("feed", x.feed(0x68616c6c, 0x20312031, 0, 0, 0), 20);
        due("hall", x.hall(), Check.fault(8, 0));
        due("feed", x.feed(0, 0, 0, 0, 0), 20);
        due("bytes", x.count(14), 20);
        due("feed", x.feed(0, 0, 0, 0, 0), 40);
    }

    private static void feedFull() {
        sentence("NONE, and none comes, if it would have more than 400.");
        DeafSpot x = CHECK.with("hall 1 1");
        for (int n = 20; n <= 400; n += 20) {
            due("feed", x.feed(0x20202020, 0x20202020, 0x20202020, 0x20202020, 0x20202020), n);
        }
        CHECK.still("400 and 20", x, s -> s.feed(0x21212121, 0, 0, 0, 0), -1);
        due("none of it has come", x.hall(), Check.fault(400, 0));
        for (int length : new int[] {381, 399, 400}) {
            x = CHECK.with("hall 1 1");
            Check.tape(x, "hall 2 2" + " ".repeat(length - 8));
            CHECK.still(length + " and 20", x, s -> s.feed(0x21212121, 0x21212121, 0x21212121, 0x21212121, 0x21212121), -1);
            due("bytes", x.count(14), length);
            due("none of it has come", x.hall(), 0);
            due("columns", x.count(0), 2);
        }
        Check.tape(x, "hall 3 3" + " ".repeat(372));
        due("380 and 20", x.feed(0x20202020, 0x20202020, 0x20202020, 0x20202020, 0x20202021), 400);
        due("all of it has come", x.hall(), Check.fault(399, 0));
    }

    private static void endFirst() {
        sentence("The TAPE has its first n bytes alone: n");
        DeafSpot x = new DeafSpot();
        for (int n = 0; n <= 20; n++) {
            due("feed", x.feed(0x68616c6c, 0x20322033, 0x21212121, 0x21212121, 0x21212121), 20);
            due("end(" + n + ")", x.end(n), n);
            due("bytes", x.count(14), n);
            due("hall", x.hall() == 0, n == 8);
        }
        due("of an empty one", x.end(0), 0);
        Check.tape(x, " ".repeat(400));
        due("of a full one", x.end(400), 400);
        due("bytes", x.count(14), 400);
        due("one less", x.end(399), 399);
        due("and less", x.end(398), 398);
        due("what is gone does not come back", x.end(399), -1);
        // nothing is read of what stood behind the end
        String[] texts = {"go 1 if x<|=1", "go 1 if x>|=1", "go 1+|1", "go|1", "go 1 if [1=1|]", "go 1 if 1=1 and|1=1"};
        for (String text : texts) {
            int end = text.indexOf('|');
            x = new DeafSpot();
            Check.tape(x, text.replace("|", ""));
            due("end", x.end(end), end);
            due("law of '" + text + "'", x.law(), Check.fault(end, 0));
        }
        x = CHECK.with("hall 2 1");
        Check.tape(x, "go 1;go x");
        due("end", x.end(4), 4);
        due("law", x.law(), 0);
        due("by the first clause alone", x.there(0, 1, 0), 0);
    }

    private static void endRefused() {
        sentence("NONE, and nothing happens, if it has not so many, or n is below 0.");
        none("end(5) of 4", x -> x.end(5));
        none("end(-1)", x -> x.end(-1));
        for (int n : WILD) {
            none("end(" + n + ")", x -> x.end(n));
        }
        none("end(401) of 400", x -> {
            Check.tape(x, " ".repeat(400));
            int answer = x.end(401);
            Check.tape(x, "go y");
            return answer;
        });
        due("of an empty one", new DeafSpot().end(1), -1);
        DeafSpot x = evening();
        due("end(5) of 4", x.end(5), -1);
        due("the bytes are as they were", x.law(), 2);
        due("go y", x.there(2, 60, 1), 1);
    }

    private static void hallInPlace() {
        sentence("is the HALL in place of the one there was (NOW 0, nothing OUT, MELTED, given, an empty LOG; x stays): how many GUESTS");
        DeafSpot x = evening();
        due("something was out", x.count(10) > 0, true);
        due("something was melted", x.count(11) > 0, true);
        due("something was given", x.count(12) > 0, true);
        due("hall", Check.hall(x, "hall 1 2"), 0);
        int[] want = {1, 2, 0, 0, 0, 2, 0, 0, 0, 0, 0, 0, 0, 9, 0, 0, 0};
        for (int what = 0; what < want.length; what++) {
            due("count(" + what + ")", x.count(what), want[what]);
        }
        due("log", x.log(1, 0), -1);
        due("hushed", x.hushed(0, 0), 0);
        due("guest", x.guest(0, 2), -1);
        due("fan", x.fan(0, 2), -1);
        due("nobody sits", x.seat(0, 0, 1), -1);
        due("seats of the old one", x.seat(1, 0, 0), -1);
        due("hall", Check.hall(x, "hall 1 2;guest 0 1 4 4"), 1);
        due("deaf in no minute", x.guest(0, 4), 0);
        // a large one, a small one, a long one and a high one, each on its own seats alone
        x = CHECK.with("hall 10 8;guest 9 7 9 9;fan 9 7 1 1;snow 9 7 1;warm 9 7 9999;spot 9 7", "go x+y");
        shape(x, 3, 3);
        shape(x, 10, 1);
        shape(x, 1, 8);
        shape(x, 10, 8);
        shape(x, 2, 4);
    }

    /** Each edge, and that heat and the spot go to the last seat's neighbours. */
    private static void shape(DeafSpot x, int columns, int rows) {
        String name = columns + " " + rows + ": ";
        int right = columns - 1;
        int last = rows - 1;
        due(name + "hall", Check.hall(x, "hall " + columns + " " + rows + ";warm " + right + " " + last + " 80"), 0);
        due(name + "snows", x.count(4), 0);
        int ways = (columns > 1 ? 1 : 0) + (rows > 1 ? 1 : 0);
        due(name + "tick", x.tick(0, 1), 1);
        due(name + "heat", x.seat(right, last, 0), 80 - 10 * ways);
        due(name + "to the left", x.seat(right - 1, last, 0), columns > 1 ? 10 : -1);
        due(name + "up", x.seat(right, last - 1, 0), rows > 1 ? 10 : -1);
        due(name + "all", x.count(9), 80);
        due(name + "spot", x.count(7) + x.count(8), 1);
        due(name + "beyond", x.seat(columns, last, 0) + x.seat(right, rows, 0), -2);
        for (int column = 0; column < columns; column++) {
            due(name + "edge", x.seat(column, last / 2, 3), Math.min(Math.min(column, right - column), last / 2));
        }
        due(name + "tick", x.tick(0, 60), 61);
        due(name + "at the end", x.seat(right, last, 2), 1);
    }

    private static void hallDrawStays() {
        sentence("x stays");
        DeafSpot x = new DeafSpot();
        due("seed", x.seed(MOST), 0);
        due("hall", Check.hall(x, "hall 1 1"), 0);
        due("x", x.count(13), MOST);
        due("a fault", Check.hall(x, "hall"), Check.fault(4, 0));
        due("x", x.count(13), MOST);
    }

    private static void lawNumbers() {
        sentence("The TAPE, which is empty then, is a LAW: its number; -2 - its FAULT");
        DeafSpot x = new DeafSpot();
        for (int law = 0; law < 6; law++) {
            due("a fault", Check.law(x, "go"), Check.fault(2, 0));
            due("tape", x.count(14), 0);
            due("laws", x.count(5), law);
            due("law", Check.law(x, "go " + law), law);
            due("tape", x.count(14), 0);
        }
        due("an empty tape", new DeafSpot().law(), Check.fault(0, 0));
    }

    private static void lawSeventh() {
        sentence("NONE, and nothing happens: there are 6.");
        for (String text : new String[] {"go 7", "go !", ""}) {
            DeafSpot x = CHECK.with("hall 2 1", "go 0", "go 1", "go 2", "go x", "go 4", "go 5");
            Check.tape(x, text);
            CHECK.still("seventh law '" + text + "'", x, s -> s.law(), -1);
            due("bytes stay", x.count(14), text.length());
        }
        DeafSpot x = CHECK.with("hall 2 1", "go 0", "go 1", "go 2", "go x", "go 4", "go 5");
        Check.tape(x, "hall 9 1");
        due("seventh", x.law(), -1);
        due("what is on the tape may still be a hall", x.hall(), 0);
        due("columns", x.count(0), 9);
    }

    private static void seat() {
        sentence("Of a SEAT what 0: HEAT, 1: who sits there (NONE: nobody), 2: 1 if the SPOT is there, else 0, 3: edge.");
        DeafSpot x = CHECK.with("hall 10 8;guest 9 7 1 1;guest 0 0 1 1;spot 9 7;warm 9 7 9999");
        int[][] want = {{9999, 0, 1, 0}, {0, 1, 0, 0}, {0, -1, 0, 3}};
        int[][] seats = {{9, 7}, {0, 0}, {4, 3}};
        for (int i = 0; i < 3; i++) {
            for (int what = 0; what <= 3; what++) {
                due("seat " + i + " what " + what, x.seat(seats[i][0], seats[i][1], what), want[i][what]);
            }
        }
        due("guest 11", CHECK.with("hall 10 2" + guests(12)).seat(1, 1, 1), 11);
    }

    private static String guests(int n) {
        StringBuilder text = new StringBuilder();
        for (int i = 0; i < n; i++) {
            text.append(";guest ").append(i % 10).append(' ').append(i / 10).append(' ').append(i).append(" 1");
        }
        return text.toString();
    }

    private static void seatNone() {
        sentence("2: 1 if the SPOT is there, else 0, 3: edge. NONE without these.");
        none("x 3 of 3", x -> x.seat(3, 0, 0));
        none("y 2 of 2", x -> x.seat(0, 2, 0));
        none("x -1", x -> x.seat(-1, 1, 0));
        none("y -1", x -> x.seat(1, -1, 0));
        none("what -1", x -> x.seat(0, 0, -1));
        none("what 4", x -> x.seat(0, 0, 4));
        for (int n : WILD) {
            none("x " + n, x -> x.seat(n, 0, 0));
            none("y " + n, x -> x.seat(0, n, 0));
            none("what " + n, x -> x.seat(0, 0, n));
        }
    }

    private static void guest() {
        sentence("Of a GUEST what 0: x, 1: y (NONE: he is away), 2: WARM, 3: sort, 4: in how many MINUTES he was DEAF.");
        DeafSpot x = CHECK.with("hall 10 2" + guests(12), "go x");
        due("tick", x.tick(0, 1), 1);
        int[][] want = {{0, 0, 0, 1, 0}, {1, 0, 1, 1, 1}, {1, 1, 11, 1, 0}};
        int[] who = {0, 1, 11};
        for (int i = 0; i < 3; i++) {
            for (int what = 0; what <= 4; what++) {
                due("guest " + who[i] + " what " + what, x.guest(who[i], what), want[i][what]);
            }
        }
    }

    private static void guestAway() {
        sentence("Of a GUEST what 0: x, 1: y (NONE: he is away)");
        DeafSpot x = evening();
        int[] away = {-1, -1, 7, 3};
        for (int what = 0; what < 4; what++) {
            due("away what " + what, x.guest(2, what), away[what]);
        }
        due("what he was deaf stays", x.guest(2, 4) >= 0, true);
    }

    private static void guestNone() {
        sentence("4: in how many MINUTES he was DEAF. NONE without these.");
        for (int what = 0; what <= 4; what++) {
            int asked = what;
            none("guest 3 of 3", x -> x.guest(3, asked));
            none("guest -1", x -> x.guest(-1, asked));
        }
        none("what -1", x -> x.guest(0, -1));
        none("what 5", x -> x.guest(0, 5));
        for (int n : WILD) {
            none("guest " + n, x -> x.guest(n, 2));
            none("what " + n, x -> x.guest(0, n));
        }
        due("guest 12 of 12", CHECK.with("hall 10 2" + guests(12)).guest(12, 2), -1);
    }

    private static void fan() {
        sentence("Of a FAN what 0: x, 1: y, 2: WAY, 3: STRENGTH.");
        DeafSpot x = CHECK.with("hall 10 8;fan 9 7 4 99" + ";fan 1 2 3 4".repeat(4) + ";fan 0 0 1 1");
        int[][] want = {{9, 7, 4, 99}, {1, 2, 3, 4}, {0, 0, 1, 1}};
        int[] which = {0, 1, 5};
        for (int i = 0; i < 3; i++) {
            for (int what = 0; what <= 3; what++) {
                due("fan " + which[i] + " what " + what, x.fan(which[i], what), want[i][what]);
            }
        }
        due("a seventh", x.fan(6, 0), -1);
    }

    private static void fanNone() {
        sentence("2: WAY, 3: STRENGTH. NONE without these.");
        for (int what = 0; what <= 3; what++) {
            int asked = what;
            none("fan 2 of 2", x -> x.fan(2, asked));
            none("fan -1", x -> x.fan(-1, asked));
        }
        none("what -1", x -> x.fan(0, -1));
        none("what 4", x -> x.fan(0, 4));
        for (int n : WILD) {
            none("fan " + n, x -> x.fan(n, 0));
            none("what " + n, x -> x.fan(0, n));
        }
    }

    private static void sits() {
        sentence("BY HAND a GUEST goes to a free SEAT (one who is away comes there): true");
        DeafSpot x = CHECK.with("hall 10 8;guest 3 3 5 6;guest 0 0 1 1", "go 0");
        int[][] corners = {{9, 0}, {0, 7}, {9, 7}, {3, 3}};
        for (int[] c : corners) {
            due("sits", x.sits(0, c[0], c[1]), true);
            due("x", x.guest(0, 0), c[0]);
            due("y", x.guest(0, 1), c[1]);
            due("who sits there", x.seat(c[0], c[1], 1), 0);
        }
        due("where he sat nobody sits", x.seat(9, 7, 1), -1);
        due("where the spot is", x.goes(1) && x.sits(0, 0, 0), true);
        due("his warmth stays", x.guest(0, 2), 5);
        due("his sort stays", x.guest(0, 3), 6);
        due("no minute goes by", x.count(6), 0);
    }

    private static void sitsAwayComes() {
        sentence("one who is away comes there");
        DeafSpot x = evening();
        due("where he sat", x.sits(2, 1, 1), true);
        due("goes", x.goes(2), true);
        due("elsewhere", x.sits(2, 2, 1), true);
        due("x", x.guest(2, 0), 2);
        due("y", x.guest(2, 1), 1);
        due("who", x.seat(2, 1, 1), 2);
        due("where another sat who went", x.goes(0) && x.sits(2, 0, 0), true);
        due("he can't come back there", x.sits(0, 0, 0), false);
    }

    private static void sitsRefused() {
        sentence("false, and nothing happens, without these.");
        refused("another's", x -> number(x.sits(0, 2, 0)), 0);
        refused("his own", x -> number(x.sits(0, 0, 0)), 0);
        refused("away, to another's", x -> number(x.sits(2, 0, 0)), 0);
        refused("x 3 of 3", x -> number(x.sits(0, 3, 0)), 0);
        refused("y 2 of 2", x -> number(x.sits(0, 0, 2)), 0);
        refused("x -1", x -> number(x.sits(0, -1, 1)), 0);
        refused("y -1", x -> number(x.sits(0, 1, -1)), 0);
        refused("guest 3 of 3", x -> number(x.sits(3, 1, 1)), 0);
        refused("guest -1", x -> number(x.sits(-1, 1, 1)), 0);
        for (int n : WILD) {
            refused("guest " + n, x -> number(x.sits(n, 1, 1)), 0);
            refused("x " + n, x -> number(x.sits(0, n, 1)), 0);
            refused("y " + n, x -> number(x.sits(0, 1, n)), 0);
        }
        due("no free seat", CHECK.with("hall 1 1;guest 0 0 1 1").sits(0, 0, 0), false);
    }

    private static void goes() {
        sentence("BY HAND a GUEST goes away: true");
        DeafSpot x = CHECK.with("hall 10 2" + guests(12));
        for (int guest : new int[] {0, 11}) {
            due("goes", x.goes(guest), true);
            due("x", x.guest(guest, 0), -1);
            due("y", x.guest(guest, 1), -1);
        }
        due("his seat is free", x.seat(1, 1, 1), -1);
        due("he is a guest still", x.count(2), 12);
    }

    private static void goesRefused() {
        sentence("false, and nothing happens: there is none, or he is.");
        refused("he is away", x -> number(x.goes(2)), 0);
        refused("guest 3 of 3", x -> number(x.goes(3)), 0);
        for (int n : WILD) {
            refused("guest " + n, x -> number(x.goes(n)), 0);
        }
        due("12 of 12", CHECK.with("hall 10 2" + guests(12)).goes(12), false);
        due("of none", CHECK.with("hall 10 2").goes(0), false);
    }

    private static void change() {
        sentence("BY HAND two GUESTS (unlike, neither away) change SEATS: true");
        DeafSpot x = CHECK.with("hall 10 2" + guests(12));
        due("the first and the last", x.change(0, 11), true);
        due("x", x.guest(0, 0), 1);
        due("y", x.guest(0, 1), 1);
        due("x", x.guest(11, 0), 0);
        due("y", x.guest(11, 1), 0);
        due("who", x.seat(0, 0, 1), 11);
        due("who", x.seat(1, 1, 1), 0);
        due("warm stays his", x.guest(11, 2), 11);
        due("the other way round", x.change(11, 0), true);
        due("who", x.seat(0, 0, 1), 0);
        due("who", x.seat(1, 1, 1), 11);
    }

    private static void changeRefused() {
        sentence("change SEATS: true; false, and nothing happens, without these.");
        refused("alike", x -> number(x.change(1, 1)), 0);
        refused("one away", x -> number(x.change(2, 0)), 0);
        refused("the other away", x -> number(x.change(0, 2)), 0);
        refused("alike and away", x -> number(x.change(2, 2)), 0);
        refused("one 3 of 3", x -> number(x.change(3, 0)), 0);
        refused("other 3 of 3", x -> number(x.change(0, 3)), 0);
        refused("alike and none", x -> number(x.change(3, 3)), 0);
        for (int n : WILD) {
            refused("one " + n, x -> number(x.change(n, 0)), 0);
            refused("other " + n, x -> number(x.change(0, n)), 0);
            refused("both " + n, x -> number(x.change(n, n)), 0);
        }
    }

    private static void warms() {
        sentence("WARM of a GUEST becomes n (0 to 99): what it was");
        DeafSpot x = evening();
        due("to 0", x.warms(0, 0), 16);
        due("is 0", x.guest(0, 2), 0);
        due("to 99", x.warms(0, 99), 0);
        due("is 99", x.guest(0, 2), 99);
        due("as it is", x.warms(0, 99), 99);
        due("of one who is away", x.warms(2, 1), 7);
        due("is 1", x.guest(2, 2), 1);
        due("he comes", x.sits(2, 1, 1), true);
        due("with it", x.guest(2, 2), 1);
    }

    private static void warmsRefused() {
        sentence("what it was; NONE, and nothing happens, without these.");
        none("n -1", x -> x.warms(0, -1));
        none("n 100", x -> x.warms(0, 100));
        none("guest 3 of 3", x -> x.warms(3, 1));
        for (int n : WILD) {
            none("n " + n, x -> x.warms(0, n));
            none("guest " + n, x -> x.warms(n, 1));
        }
    }

    private static void tick() {
        sentence("So many MINUTES (1 to 120) by a LAW: NOW");
        DeafSpot x = CHECK.with("hall 10 8", "go x", "go 0-x");
        due("1", x.tick(0, 1), 1);
        due("x", x.count(7), 1);
        due("120", x.tick(0, 120), 121);
        due("x", x.count(7), 9);
        due("119", x.tick(1, 119), 240);
        due("x", x.count(7), 0);
    }

    private static void tickRefused() {
        sentence("NOW; NONE, and nothing happens, without these (no HALL)");
        none("n 0", x -> x.tick(0, 0));
        none("n -1", x -> x.tick(0, -1));
        none("n 121", x -> x.tick(0, 121));
        none("law 2 of 2", x -> x.tick(2, 1));
        none("law -1", x -> x.tick(-1, 1));
        for (int n : WILD) {
            none("n " + n, x -> x.tick(0, n));
            none("law " + n, x -> x.tick(n, 1));
        }
    }

    private static void tickNoHall() {
        sentence("without these (no HALL)");
        DeafSpot x = new DeafSpot();
        due("law", Check.law(x, "go x"), 0);
        CHECK.still("no hall", x, s -> s.tick(0, 1), -1);
        due("now", x.count(6), 0);
        due("log", x.count(15), 0);
    }

    /** A hall in which so many minutes have gone by; 83 times 120 are 9960. */
    private static DeafSpot late(int now) {
        DeafSpot x = CHECK.with("hall 2 1;guest 0 0 1 0", "go 0");
        for (int i = 0; i < 83; i++) {
            x.tick(0, 120);
        }
        due("late", now == 9960 ? x.count(6) : x.tick(0, now - 9960), now);
        return x;
    }

    private static void tickAbove() {
        sentence("or if NOW would be above 9999");
        due("9960 and 39", late(9960).tick(0, 39), 9999);
        CHECK.still("9960 and 40", late(9960), x -> x.tick(0, 40), -1);
        CHECK.still("9960 and 120", late(9960), x -> x.tick(0, 120), -1);
        due("9998 and 1", late(9998).tick(0, 1), 9999);
        CHECK.still("9998 and 2", late(9998), x -> x.tick(0, 2), -1);
        CHECK.still("9999 and 1", late(9999), x -> x.tick(0, 1), -1);
        DeafSpot x = late(9999);
        due("all of them were deaf ones", x.guest(0, 4), 9999);
        due("given", x.count(12), 9999);
        due("image", x.image(0), 9999);
        due("a new hall begins anew", Check.hall(x, "hall 1 1"), 0);
        due("tick", x.tick(0, 1), 1);
        due("back", x.back(0), 9999);
        due("and no more", x.tick(0, 1), -1);
    }

    private static void seed() {
        sentence("x becomes a number: what it was");
        DeafSpot x = new DeafSpot();
        due("0 at first", x.seed(1), 0);
        due("the most", x.seed(MOST), 1);
        due("is it", x.count(13), MOST);
        due("the least", x.seed(0), MOST);
        due("is it", x.count(13), 0);
    }

    private static void seedRefused() {
        sentence("NONE, and nothing happens, below 0.");
        none("-1", x -> x.seed(-1));
        none("least", x -> x.seed(LEAST));
        DeafSpot x = new DeafSpot();
        due("seed", x.seed(7), 0);
        due("-1", x.seed(-1), -1);
        due("as it was", x.seed(8), 7);
    }

    private static void log() {
        sentence("LOG: where the SPOT was so many MINUTES ago (1: behind the last one) what 0: x, 1: y");
        DeafSpot x = CHECK.with("hall 10 8;spot 0 7", "go x", "go 0-y");
        due("tick", x.tick(0, 2), 2);
        due("tick", x.tick(1, 1), 3);
        int[][] want = {{2, 6}, {2, 7}, {1, 7}};
        for (int ago = 1; ago <= 3; ago++) {
            due("x " + ago, x.log(ago, 0), want[ago - 1][0]);
            due("y " + ago, x.log(ago, 1), want[ago - 1][1]);
        }
        due("not where it began", x.log(4, 0), -1);
    }

    private static void logNone() {
        sentence("NONE without it in the LOG.");
        none("0 ago", x -> x.log(0, 0));
        none("5 ago of 4", x -> x.log(5, 0));
        none("5 ago of 4", x -> x.log(5, 1));
        none("what -1", x -> x.log(1, -1));
        none("what 2", x -> x.log(1, 2));
        for (int n : WILD) {
            none(n + " ago", x -> x.log(n, 0));
            none("what " + n, x -> x.log(1, n));
        }
        due("4 ago of 4", evening().log(4, 0) >= 0, true);
        due("empty", CHECK.with("hall 1 1").log(1, 0), -1);
        due("120 ago", late(9999).log(120, 0), 0);
        due("121 ago", late(9999).log(121, 0), -1);
    }

    private static void hushed() {
        sentence("LOG: how often the SPOT was on a SEAT");
        DeafSpot x = CHECK.with("hall 10 8", "go x+y", "go 0");
        due("never, where it is now", x.hushed(0, 0), 0);
        due("tick", x.tick(0, 120), 120);
        due("never, where it began", x.hushed(0, 0), 0);
        due("once", x.hushed(1, 0), 1);
        due("at the end", x.hushed(9, 7), 105);
        due("tick", x.tick(1, 120), 240);
        due("in all that is kept", x.hushed(9, 7), 120);
        due("gone", x.hushed(1, 0), 0);
    }

    private static void hushedNone() {
        sentence("how often the SPOT was on a SEAT; NONE without it.");
        none("x 3 of 3", x -> x.hushed(3, 0));
        none("y 2 of 2", x -> x.hushed(0, 2));
        for (int n : WILD) {
            none("x " + n, x -> x.hushed(n, 0));
            none("y " + n, x -> x.hushed(0, n));
        }
        due("the last", evening().hushed(2, 1) >= 0, true);
    }

    private static void count() {
        sentence("What 0: columns, 1: rows, 2: GUESTS, 3: FANS, 4: SNOWS, 5: LAWS, 6: NOW, 7, 8: x, y of the SPOT (NONE without a HALL)");
        DeafSpot x = CHECK.with("hall 10 8;spot 9 7;warm 0 0 9999;warm 0 0 800" + guests(2) + ";fan 5 5 1 1;fan 0 1 4 9;fan 5 5 1 1;snow 0 0 3", "go 0");
        due("tick", x.tick(0, 1), 1);
        due("seed", x.seed(77), 0);
        Check.tape(x, "bytes");
        // 800 and guest 0's 0 less 3 melted; guest 1 gives 1; the fans stand on cold seats
        int[] want = {10, 8, 2, 3, 1, 1, 1, 9, 7, 798, 0, 3, 1, 77, 5, 1, 800};
        for (int what = 0; what < want.length; what++) {
            due("count(" + what + ")", x.count(what), want[what]);
        }
        due("no hall: x", new DeafSpot().count(7), -1);
        due("no hall: y", new DeafSpot().count(8), -1);
    }

    private static void countNone() {
        sentence("16: HEAT that was told in the HALL. NONE for others.");
        due("16", evening().count(16), 40);
        none("17", x -> x.count(17));
        none("-1", x -> x.count(-1));
        for (int n : WILD) {
            none("" + n, x -> x.count(n));
        }
    }

    private static void image() {
        sentence("An IMAGE is made: NOW");
        for (int k = 0; k <= 3; k++) {
            DeafSpot x = evening();
            int which = k;
            CHECK.still("image(" + k + ")", x, s -> s.image(which), 4);
            String kept = Whole.of(x);
            due("tick", x.tick(0, 9), 13);
            due("back", x.back(k), 4);
            due("as it was: " + kept, kept.equals(Whole.of(x)), true);
        }
        due("without a hall", new DeafSpot().image(0), 0);
    }

    private static void imageNone() {
        sentence("NOW; NONE without it.");
        none("4", x -> x.image(4));
        none("-1", x -> x.image(-1));
        for (int n : WILD) {
            none("" + n, x -> x.image(n));
        }
    }

    private static void imageAllBut() {
        sentence("IMAGES 0 to 3: all but the LAWS and the TAPE, as it is; gone back to, it is as it was (these stay).");
        DeafSpot x = evening();
        due("image", x.image(0), 4);
        due("law", x.law(), 2);
        Check.tape(x, "hall 2 2");
        due("sits", x.sits(2, 1, 1), true);
        due("warms", x.warms(1, 99), 5);
        due("change", x.change(0, 1), true);
        due("seed", x.seed(1), 9);
        due("tick", x.tick(2, 20), 24);
        due("back", x.back(0), 4);
        due("x", x.count(13), 9);
        due("laws stay", x.count(5), 3);
        due("the tape stays", x.count(14), 8);
        due("the tape stays", x.hall(), 0);
        due("columns", x.count(0), 2);
        due("back", x.back(0), 4);
        due("the third law stays", x.there(2, 60, 1), 1);
    }

    private static void back() {
        sentence("All is as in an IMAGE: NOW");
        // four images of four minutes, gone back to in another order, and more than once
        DeafSpot x = CHECK.with("hall 10 1", "go x");
        for (int k = 0; k <= 3; k++) {
            due("image", x.image(k), k);
            due("tick", x.tick(0, 1), k + 1);
        }
        for (int k : new int[] {2, 0, 3, 1, 1, 0, 2, 3}) {
            due("back(" + k + ")", x.back(k), k);
            due("spot", x.count(7), k);
            due("log", x.count(15), k);
            due("log", x.log(1, 0), k == 0 ? -1 : k);
            due("none before", x.log(k + 1, 0), -1);
        }
        due("an image made anew", x.image(0), 3);
        due("tick", x.tick(0, 120), 123);
        due("back", x.back(0), 3);
        due("spot", x.count(7), 3);
        // behind another hall's minutes the log is the one it was
        due("hall", Check.hall(x, "hall 10 8;spot 9 7"), 0);
        due("tick", x.tick(0, 120), 120);
        due("back", x.back(2), 2);
        due("kept", x.count(15), 2);
        due("x 1 ago", x.log(1, 0), 2);
        due("x 2 ago", x.log(2, 0), 1);
        due("y 2 ago", x.log(2, 1), 0);
        due("hushed", x.hushed(1, 0), 1);
        // an image of no hall
        x = new DeafSpot();
        due("image", x.image(0), 0);
        due("hall", Check.hall(x, "hall 2 1;guest 0 0 1 1"), 1);
        due("back", x.back(0), 0);
        due("no hall", x.count(0) + x.count(2), 0);
        due("no seat", x.seat(0, 0, 0), -1);
        due("no spot", x.count(7), -1);
    }

    private static void backNeverMade() {
        sentence("NONE, and nothing happens, if it was never made, or without it.");
        none("0", x -> x.back(0));
        none("2", x -> x.back(2));
        none("3", x -> x.back(3));
        none("4", x -> x.back(4));
        none("-1", x -> x.back(-1));
        for (int n : WILD) {
            none("" + n, x -> x.back(n));
        }
        due("1 was made", evening().back(1), 3);
    }
}
