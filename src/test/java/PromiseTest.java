/** Of each promise ordinary calls, its edges, and wrong ones; what is due was worked out by hand. */
public final class PromiseTest {
    private static final Check CHECK = new Check();
    /** Two guests at the ends of a row, the warm one to the left, the spot between them. */
    private static final String ROW = "hall 3 1;guest 0 0 16 1;guest 2 0 0 2;spot 1 0;warm 1 0 8";
    /** Each minute 10 are given, 3 go out, 2 melt. */
    private static final String CELL = "hall 1 1;guest 0 0 10 4;fan 0 0 1 3;snow 0 0 2";

    public static void main(String[] args) {
        newObject();
        feedAndEnd();
        hallAnswers();
        hallFaults();
        hallLimits();
        lawAnswers();
        lawFaults();
        ends();
        lawLimits();
        seats();
        guestsAndFans();
        hands();
        minutes();
        warmthMoves();
        wanders();
        words();
        reckoning();
        tests();
        ticks();
        thereAndDeaf();
        critics();
        seatedAndChanged();
        barons();
        fans();
        spans();
        spies();
        draws();
        logs();
        images();
        searchesAfterChanges();
        CHECK.finish();
    }

    private static void due(String call, long got, long want) {
        CHECK.due(call, got, want);
    }

    private static void due(String call, boolean got, boolean want) {
        CHECK.due(call, got, want);
    }

    private static DeafSpot with(String hall, String... laws) {
        return CHECK.with(hall, laws);
    }

    private static int fault(int place, int kind) {
        return Check.fault(place, kind);
    }

    private static void badHall(String text, int place, int kind) {
        DeafSpot x = with("hall 2 3;guest 1 1 5 1");
        due("hall of " + text, Check.hall(x, text), fault(place, kind));
        due("columns behind it", x.count(0), 2);
        due("guests behind it", x.count(2), 1);
        due("bytes behind it", x.count(14), 0);
    }

    private static void badLaw(String text, int place, int kind) {
        DeafSpot x = new DeafSpot();
        due("law of " + text, Check.law(x, text), fault(place, kind));
        due("laws behind it", x.count(5), 0);
        due("bytes behind it", x.count(14), 0);
    }

    private static void goodLaw(String text) {
        due("law of " + text, Check.law(new DeafSpot(), text), 0);
    }

    /** Where the spot goes in one minute. */
    private static void goesTo(String hall, String law, int x, int y) {
        DeafSpot spot = with(hall, law);
        due(hall + " by " + law + ": x", spot.there(0, 1, 0), x);
        due(hall + " by " + law + ": y", spot.there(0, 1, 1), y);
        due("tick", spot.tick(0, 1), 1);
        due(hall + " by " + law + ": x then", spot.count(7), x);
        due(hall + " by " + law + ": y then", spot.count(8), y);
    }

    private static void newObject() {
        DeafSpot x = new DeafSpot();
        for (int what = -1; what <= 17; what++) {
            due("new count(" + what + ")", x.count(what), what == -1 || what == 7 || what == 8 || what == 17 ? -1 : 0);
        }
        due("law 0", Check.law(x, "go heat"), 0);
        due("no hall: tick", x.tick(0, 1), -1);
        due("no hall: there", x.there(0, 1, 0), -1);
        due("no hall: deaf", x.deaf(0, 1, 0), -1);
        due("no hall: critic", x.critic(0, 1, 0), -1);
        due("no hall: seated", x.seated(0, 1, 0, 0), -1);
        due("no hall: changed", x.changed(0, 1, 0), -1);
        due("no hall: without", x.without(0, 1, 0), -1);
        due("no hall: baron", x.baron(0, 1, 0), -1);
        due("no hall: led", x.led(0, 1), -1);
        due("no hall: fanned", x.fanned(0, 1, 0, 0, 0), -1);
        due("no hall: span", x.span(0, 1, 0, 0, 0), -1);
        due("no hall: spy", x.spy(0, 1, 0, 0, 0), -1);
        due("no hall: evenings", x.evenings(0, 1, 1, 0, 0), -1);
        due("no hall: seat", x.seat(0, 0, 0), -1);
        due("no hall: guest", x.guest(0, 2), -1);
        due("no hall: fan", x.fan(0, 2), -1);
        due("no hall: sits", x.sits(0, 0, 0), false);
        due("no hall: goes", x.goes(0), false);
        due("no hall: change", x.change(0, 1), false);
        due("no hall: warms", x.warms(0, 1), -1);
        due("no hall: log", x.log(1, 0), -1);
        due("no hall: hushed", x.hushed(0, 0), -1);
        due("NONE", DeafSpot.NONE, -1);
    }

    private static void feedAndEnd() {
        DeafSpot x = new DeafSpot();
        for (int i = 1; i <= 20; i++) {
            due("feed " + i, x.feed(-1, 0, Integer.MIN_VALUE, Integer.MAX_VALUE, i), 20 * i);
        }
        due("feed 21", x.feed(0, 0, 0, 0, 0), -1);
        due("bytes", x.count(14), 400);
        due("end(401)", x.end(401), -1);
        due("end(-1)", x.end(-1), -1);
        due("bytes", x.count(14), 400);
        due("end(400)", x.end(400), 400);
        due("end(381)", x.end(381), 381);
        due("feed above 400", x.feed(0, 0, 0, 0, 0), -1);
        due("bytes", x.count(14), 381);
        due("end(380)", x.end(380), 380);
        due("feed up to 400", x.feed(0, 0, 0, 0, 0), 400);
        due("end(0)", x.end(0), 0);
        due("end(1)", x.end(1), -1);
        due("end(min)", x.end(Integer.MIN_VALUE), -1);
        // "hall" and " 2 1", the highest byte first
        due("feed", x.feed(0x68616c6c, 0x20322031, 0, 0, 0), 20);
        due("end(8)", x.end(8), 8);
        due("hall", x.hall(), 0);
        due("columns", x.count(0), 2);
        // bytes above 127 are bytes like others, that stand nowhere
        due("feed", x.feed(0x68616c6c, 0x20322031, 0xff000000, 0, 0), 20);
        due("end(9)", x.end(9), 9);
        due("hall", x.hall(), fault(8, 0));
        // two feeds, cut between, go on where the cut was
        due("feed", x.feed(0x68616c6c, 0x20332032, 0x35353535, 0, 0), 20);
        due("end(8)", x.end(8), 8);
        due("feed", x.feed(0x3b73706f, 0x74203220, 0x31000000, 0, 0), 28);
        due("end(17)", x.end(17), 17);
        due("hall", x.hall(), 0);
        due("spot x", x.count(7), 2);
        due("spot y", x.count(8), 1);
    }

    private static void hallAnswers() {
        DeafSpot x = with(CELL, "go heat");
        due("tick", x.tick(0, 3), 3);
        due("seed", x.seed(77), 0);
        due("hall", Check.hall(x, "hall 10 8;spot 9 7;guest 9 7 99 9;guest 0 0 0 0;warm 3 4 9999;warm 3 4 9;warm 1 1 2;fan 2 3 4 99;snow 5 6 99"), 2);
        int[] want = {10, 8, 2, 1, 1, 1, 0, 9, 7, 11, 0, 0, 0, 77, 0, 0, 11};
        for (int what = 0; what < want.length; what++) {
            due("count(" + what + ")", x.count(what), want[what]);
        }
        due("log is empty", x.log(1, 0), -1);
        due("deaf anew", x.guest(0, 4), 0);
        due("heat", x.seat(3, 4, 0), 9);
        due("heat untold", x.seat(4, 4, 0), 0);
        due("blanks", Check.hall(x, "  hall  2   1 ; guest 1 0 1 1;  warm0 0 00007  "), 1);
        due("heat", x.seat(0, 0, 0), 7);
        due("no spot told", x.count(7), 0);
        due("no blanks but between numbers", Check.hall(x, "hall3 2;spot2 1;snow1 1 1;fan1 1 1 1;guest0 0 1 1"), 1);
        due("spot", x.count(7), 2);
        due("smallest", Check.hall(x, "hall 1 1"), 0);
    }

    private static void hallFaults() {
        badHall("", 0, 0);
        badHall("   ", 3, 0);
        badHall("hall", 4, 0);
        badHall("hall 2", 6, 0);
        badHall("hall 2 1;", 9, 0);
        badHall("hall 2 1; ", 10, 0);
        badHall(";hall 2 1", 0, 0);
        badHall("Hall 2 1", 0, 0);
        badHall("halls 2 1", 0, 0);
        badHall("hal 2 1", 0, 0);
        badHall("dome 2 1", 0, 0);
        badHall("7", 0, 0);
        badHall("hall 2 1 1", 9, 0);
        badHall("hall 2 1 guest", 9, 0);
        badHall("hall 2,1", 6, 0);
        badHall("hall\t2 1", 4, 0);
        badHall("hall 2 -1", 7, 0);
        badHall("hall 2 1;stage 0 0", 9, 0);
        badHall("hall 2 1;spot 0", 15, 0);
        badHall("hall 2 1;spot 0;", 15, 0);
        badHall("hall 2 1;guest 0 0 x 1", 19, 0);
        badHall("hall 0 1", 5, 1);
        badHall("hall 11 x", 5, 1);
        badHall("hall 2 0", 7, 1);
        badHall("hall 2 9", 7, 1);
        badHall("hall 000002 1", 5, 1);
        badHall("hall 99999999999 1", 5, 1);
        badHall("hall 2 1;spot 2 0", 14, 1);
        badHall("hall 2 1;spot 1 1", 16, 1);
        badHall("hall 2 1;warm 2 0 1", 14, 1);
        badHall("hall 2 1;warm 0 0 10000", 18, 1);
        badHall("hall 2 1;warm 0 0 000001", 18, 1);
        badHall("hall 2 1;snow 0 1 1", 16, 1);
        badHall("hall 2 1;snow 0 0 0", 18, 1);
        badHall("hall 2 1;snow 0 0 100", 18, 1);
        badHall("hall 2 1;fan 2 0 1 1", 13, 1);
        badHall("hall 2 1;fan 0 0 5 1", 17, 1);
        badHall("hall 2 1;fan 0 0 0 1", 17, 1);
        badHall("hall 2 1;fan 0 0 1 0", 19, 1);
        badHall("hall 2 1;fan 0 0 1 100", 19, 1);
        badHall("hall 2 1;guest 0 0 100 1", 19, 1);
        badHall("hall 2 1;guest 0 0 99 10", 22, 1);
        badHall("spot 0 0;hall 2 1", 0, 4);
        badHall("  warm 0 0 0", 2, 4);
        badHall("hall 2 1; hall 2 1", 10, 4);
        badHall("hall 2 1;spot 0 0;spot", 18, 4);
        badHall("hall 2 1;guest 1 0 1 1;guest  1 0", 30, 5);
        badHall("hall 2 1;guest 1 0 1 1;guest 1 0!", 29, 5);
        badHall("hall 2 1;guest 1 0 1 1;guest 1 1 1 1", 31, 1);
        badHall("hall 2 1;guest 1 0 1 1;guest 1", 30, 0);
    }

    private static String times(String text, int n) {
        return text.repeat(n);
    }

    private static void hallLimits() {
        StringBuilder guests = new StringBuilder("hall 10 2");
        for (int i = 0; i < 12; i++) {
            guests.append(";guest ").append(i % 10).append(' ').append(i / 10).append(" 1 1");
        }
        due("12 guests", Check.hall(new DeafSpot(), guests.toString()), 12);
        badHall(guests + ";guest 9 1 1 1", guests.length() + 1, 4);
        badHall(guests + ";quest 9 1 1 1", guests.length() + 1, 0);
        String fans = "hall 1 1" + times(";fan 0 0 1 1", 6);
        due("6 fans", Check.hall(new DeafSpot(), fans), 0);
        badHall(fans + ";fan", fans.length() + 1, 4);
        String snows = "hall 1 1" + times(";snow 0 0 1", 8);
        due("8 snows", Check.hall(new DeafSpot(), snows), 0);
        badHall(snows + "; snow 0 0 1", snows.length() + 2, 4);
        String clauses = "hall 1 1" + times(";warm 0 0 1", 31);
        due("32 clauses", Check.hall(new DeafSpot(), clauses), 0);
        badHall(clauses + ";warm 0 0 1", clauses.length() + 1, 4);
        badHall(clauses + ";worm 0 0 1", clauses.length() + 1, 0);
        badHall(clauses + ";", clauses.length() + 1, 0);
        badHall(clauses + ";hall", clauses.length() + 1, 4);
        String longest = clauses + times(" ", 400 - clauses.length());
        due("400 bytes", Check.hall(new DeafSpot(), longest), 0);
    }

    private static void lawAnswers() {
        DeafSpot x = new DeafSpot();
        for (int i = 0; i < 6; i++) {
            due("law " + i, Check.law(x, "go " + i), i);
            due("bytes", x.count(14), 0);
            due("fault", Check.law(x, i < 5 ? "go" : ""), i < 5 ? fault(2, 0) : -1);
        }
        due("laws", x.count(5), 6);
        Check.tape(x, "go 1");
        due("seventh", x.law(), -1);
        due("its bytes stay", x.count(14), 4);
        Check.tape(x, "go wrong");
        due("seventh, wrong", x.law(), -1);
        due("its bytes stay", x.count(14), 8);
        due("law 6", x.tick(6, 1), -1);
        due("hall", Check.hall(x, "hall 2 1"), 0);
        due("law 6", x.tick(6, 1), -1);
        due("law 5", x.tick(5, 1), 1);
        // what was read before leaves nothing behind
        x = with("hall 2 1");
        for (int i = 0; i < 40; i++) {
            due("long fault", Check.law(x, "go 1" + times("+1", 58) + "+!"), fault(121, 0));
        }
        due("law", Check.law(x, "go x"), 0);
        due("there", x.there(0, 1, 0), 1);
        goodLaw("go1");
        goodLaw("  go  1  ;  go  x  if  y  >=  2  ");
        goodLaw("go heat+near-guests*x/y%minute+way-back+edge");
        goodLaw("go 1if 1=1and 2=2or not3=3");
        goodLaw("go 00000 if not[not not[1<2]]or[x>1 or y<=3]and x=1");
    }

    private static void lawFaults() {
        badLaw("", 0, 0);
        badLaw("  ", 2, 0);
        badLaw("go", 2, 0);
        badLaw("go ", 3, 0);
        badLaw("goes 1", 0, 0);
        badLaw("if 1=1", 0, 0);
        badLaw("go 1;", 5, 0);
        badLaw("go 1;;go 1", 5, 0);
        badLaw("go 1,go 1", 4, 0);
        badLaw("go 1 go 1", 5, 0);
        badLaw("go 1 x", 5, 0);
        badLaw("go 1 1", 5, 0);
        badLaw("go heats", 3, 0);
        badLaw("go X", 3, 0);
        badLaw("go not 1", 3, 0);
        badLaw("go if 1=1", 3, 0);
        badLaw("go [1]", 3, 0);
        badLaw("go -1", 3, 0);
        badLaw("go 1+", 5, 0);
        badLaw("go 1+ *2", 6, 0);
        badLaw("go 1=1", 4, 0);
        badLaw("go 1 if", 7, 0);
        badLaw("go 1 if x", 9, 0);
        badLaw("go 1 if x y", 10, 0);
        badLaw("go 1 if x=", 10, 0);
        badLaw("go 1 if x< =1", 11, 0);
        badLaw("go 1 if x==1", 10, 0);
        badLaw("go 1 if x=<1", 10, 0);
        badLaw("go 1 if x<>1", 10, 0);
        badLaw("go 1 if x=1=1", 11, 0);
        badLaw("go 1 if x=1 and", 15, 0);
        badLaw("go 1 if x=1 or;", 14, 0);
        badLaw("go 1 if x=1 but y=1", 12, 0);
        badLaw("go 1 if x=1 if y=1", 12, 0);
        badLaw("go 1 if notx=1", 8, 0);
        badLaw("go 1 if not and", 12, 0);
        badLaw("go 1 if []", 9, 0);
        badLaw("go 1 if [x=1", 12, 0);
        badLaw("go 1 if [x=1;", 12, 0);
        badLaw("go 1 if x=1]", 11, 0);
        badLaw("go 1 if [x]=1", 10, 0);
        badLaw("go 100000", 3, 1);
        badLaw("go 1+000000*z", 5, 1);
        badLaw("go 1 if x<123456", 10, 1);
    }

    /** A text ends where the tape ends, whatever it had behind that, or if it is full. */
    private static void ends() {
        String[] laws = {"go 1 if x<|=1", "go 1 if 1>|=0", "go 1+|1", "go| 1", "go 1 if [1=1|]", "go 1 if 1=1 and| 1=1"};
        for (String text : laws) {
            int end = text.indexOf('|');
            DeafSpot x = new DeafSpot();
            Check.tape(x, text.replace("|", ""));
            due("end", x.end(end), end);
            due("law of " + text, x.law(), fault(end, 0));
            String full = times(" ", 400 - end) + text.substring(0, end);
            badLaw(full, 400, 0);
        }
        String[] halls = {"hall 1| 1", "hall| 1 1", "hall 1 1;|warm 0 0 1"};
        for (String text : halls) {
            int end = text.indexOf('|');
            DeafSpot x = new DeafSpot();
            Check.tape(x, text.replace("|", ""));
            due("end", x.end(end), end);
            due("hall of " + text, x.hall(), fault(end, 0));
            badHall(times(" ", 400 - end) + text.substring(0, end), 400, 0);
        }
        String[] whole = {"go 1|+1", "go x|y", "go 1|2", "go 1| if", "go 1|;"};
        for (String text : whole) {
            int end = text.indexOf('|');
            DeafSpot x = new DeafSpot();
            Check.tape(x, text.replace("|", ""));
            due("end", x.end(end), end);
            due("law of " + text, x.law(), 0);
            goodLaw(times(" ", 400 - end) + text.substring(0, end));
        }
    }

    private static void lawLimits() {
        goodLaw("go 1" + times(";go 1", 11));
        badLaw("go 1" + times(";go 1", 12), 60, 4);
        badLaw("go 1" + times(";go 1", 11) + "; go 1", 61, 4);
        badLaw("go 1" + times(";go 1", 11) + ";stay", 60, 0);
        badLaw("go 1" + times(";go 1", 11) + ";", 60, 0);
        goodLaw("go 1 if " + times("[", 10) + "1=1" + times("]", 10));
        badLaw("go 1 if " + times("[", 11) + "1=1" + times("]", 11), 18, 2);
        goodLaw("go 1 if " + times("not ", 10) + "1=1");
        badLaw("go 1 if " + times("not ", 11) + "1=1", 48, 2);
        badLaw("go 1 if " + times("[not ", 5) + "[", 33, 2);
        badLaw("go 1 if " + times("[", 10) + " not 1=1", 19, 2);
        badLaw("go 1 if " + times("[", 10) + " nought", 19, 0);
        goodLaw("go 1 if " + times("[", 10) + "1=1" + times("]", 10) + " and " + times("not ", 10) + "1=1");
        // values and signs are counted over the whole law
        goodLaw("go 1" + times("+1", 59));
        badLaw("go 1" + times("+1", 60), 123, 3);
        badLaw("go 1" + times("+1", 59) + "+ heat", 124, 3);
        badLaw("go 1" + times("+1", 59) + "+hot", 123, 0);
        badLaw("go 1" + times("+1", 59) + "+", 123, 0);
        badLaw("go 1" + times("+1", 59) + "+000001", 123, 1);
        badLaw("go 1" + times("+1", 58) + " if 1=1", 125, 3);
        goodLaw("go 1" + times("+1", 56) + " if 1=1");
        badLaw("go 1" + times("+1", 57) + " if 1=1", 124, 3);
        badLaw("go 1" + times("+1", 58) + " if 1 ! 1", 126, 0);
        badLaw("go 1" + times("+1", 58) + " if 1 <= 1", 126, 3);
        goodLaw("go 1" + times("+1", 29) + ";go 1" + times("+1", 29));
        badLaw("go 1" + times("+1", 29) + ";go 1" + times("+1", 30), 126, 3);
        String longest = "go 1" + times("+12345", 59);
        goodLaw(longest + times(" ", 400 - longest.length()));
    }

    private static void seats() {
        DeafSpot x = with("hall 5 4;guest 4 3 1 1;guest 0 0 1 1;spot 2 1;warm 4 3 321");
        due("heat", x.seat(4, 3, 0), 321);
        due("heat", x.seat(3, 3, 0), 0);
        due("who", x.seat(4, 3, 1), 0);
        due("who", x.seat(0, 0, 1), 1);
        due("nobody", x.seat(1, 0, 1), -1);
        due("spot", x.seat(2, 1, 2), 1);
        due("no spot", x.seat(1, 2, 2), 0);
        int[][] edges = {{0, 0, 0}, {2, 1, 1}, {2, 2, 1}, {1, 1, 1}, {4, 2, 0}, {3, 3, 0}};
        for (int[] e : edges) {
            due("edge", x.seat(e[0], e[1], 3), e[2]);
        }
        due("edge 2", with("hall 10 5").seat(2, 2, 3), 2);
        due("edge 3", with("hall 10 8").seat(5, 4, 3), 3);
        due("seat(5, 0)", x.seat(5, 0, 0), -1);
        due("seat(0, 4)", x.seat(0, 4, 0), -1);
        due("seat(-1, 0)", x.seat(-1, 0, 0), -1);
        due("seat(0, -1)", x.seat(0, -1, 0), -1);
        due("seat(max, max)", x.seat(Integer.MAX_VALUE, Integer.MAX_VALUE, 0), -1);
        due("what 4", x.seat(0, 0, 4), -1);
        due("what -1", x.seat(0, 0, -1), -1);
    }

    private static void guestsAndFans() {
        DeafSpot x = with("hall 5 4;guest 4 3 99 9;guest 0 2 7 0;fan 3 1 4 99;fan 0 0 1 1", "go 0");
        int[][] guests = {{4, 3, 99, 9, 0}, {0, 2, 7, 0, 0}};
        int[][] fans = {{3, 1, 4, 99}, {0, 0, 1, 1}};
        for (int i = 0; i < 2; i++) {
            for (int what = 0; what < 5; what++) {
                due("guest(" + i + ", " + what + ")", x.guest(i, what), guests[i][what]);
                due("fan(" + i + ", " + what + ")", x.fan(i, what), what < 4 ? fans[i][what] : -1);
            }
            due("guest what -1", x.guest(i, -1), -1);
            due("guest what 5", x.guest(i, 5), -1);
            due("fan what -1", x.fan(i, -1), -1);
            due("guest(2)", x.guest(2, i), -1);
            due("guest(-1)", x.guest(-1, i), -1);
            due("fan(2)", x.fan(2, i), -1);
            due("fan(-1)", x.fan(-1, i), -1);
        }
        due("sits", x.sits(1, 0, 0), true);
        due("tick", x.tick(0, 5), 5);
        due("deaf", x.guest(1, 4), 5);
        due("goes", x.goes(1), true);
        int[] away = {-1, -1, 7, 0, 5};
        for (int what = 0; what < 5; what++) {
            due("away guest(1, " + what + ")", x.guest(1, what), away[what]);
        }
        due("guests still", x.count(2), 2);
    }

    private static void hands() {
        DeafSpot x = with("hall 3 2;guest 0 0 8 1;guest 2 1 9 2;guest 1 0 0 3");
        due("own seat", x.sits(0, 0, 0), false);
        due("another's seat", x.sits(0, 2, 1), false);
        due("beyond", x.sits(0, 3, 0), false);
        due("beyond", x.sits(0, 0, 2), false);
        due("beyond", x.sits(0, -1, 0), false);
        due("no guest", x.sits(3, 2, 0), false);
        due("no guest", x.sits(-1, 2, 0), false);
        due("free", x.sits(0, 2, 0), true);
        due("x", x.guest(0, 0), 2);
        due("y", x.guest(0, 1), 0);
        due("left", x.seat(0, 0, 1), -1);
        due("sits", x.seat(2, 0, 1), 0);
        due("where he was", x.sits(2, 0, 0), true);
        due("goes", x.goes(0), true);
        due("goes again", x.goes(0), false);
        due("no guest", x.goes(3), false);
        due("no guest", x.goes(-1), false);
        due("free then", x.seat(2, 0, 1), -1);
        due("change one away", x.change(0, 1), false);
        due("change one away", x.change(1, 0), false);
        due("comes", x.sits(0, 1, 1), true);
        due("x", x.guest(0, 0), 1);
        due("change", x.change(2, 0), true);
        due("x", x.guest(2, 0), 1);
        due("y", x.guest(2, 1), 1);
        due("x", x.guest(0, 0), 0);
        due("y", x.guest(0, 1), 0);
        due("who", x.seat(1, 1, 1), 2);
        due("who", x.seat(0, 0, 1), 0);
        due("change like", x.change(1, 1), false);
        due("change none", x.change(1, 3), false);
        due("change none", x.change(-1, 1), false);
        due("warms", x.warms(1, 0), 9);
        due("warms", x.warms(1, 99), 0);
        due("warms 100", x.warms(1, 100), -1);
        due("warms -1", x.warms(1, -1), -1);
        due("warms nobody", x.warms(3, 1), -1);
        due("warms nobody", x.warms(-1, 1), -1);
        due("warm", x.guest(1, 2), 99);
        due("goes", x.goes(1), true);
        due("warms one away", x.warms(1, 5), 99);
        due("warm", x.guest(1, 2), 5);
    }

    private static void minutes() {
        DeafSpot x = with(CELL, "go heat");
        for (int n = 1; n <= 4; n++) {
            due("tick", x.tick(0, 1), n);
            due("heat", x.seat(0, 0, 0), 5 * n);
            due("all heat", x.count(9), 5 * n);
            due("out", x.count(10), 3 * n);
            due("melted", x.count(11), 2 * n);
            due("given", x.count(12), 10 * n);
            due("deaf", x.guest(0, 4), n);
        }
        due("goes", x.goes(0), true);
        due("tick", x.tick(0, 5), 9);
        due("heat: 20, 15, 10, 5, 0", x.count(9), 0);
        due("out", x.count(10), 12 + 12);
        due("melted", x.count(11), 8 + 8);
        due("given", x.count(12), 40);
        due("deaf", x.guest(0, 4), 4);
        due("told", x.count(16), 0);
    }

    private static void warmthMoves() {
        heats("hall 2 1;warm 0 0 80", 70, 10);
        heats("hall 2 1;warm 0 0 7", 7, 0);
        heats("hall 3 1;warm 1 0 15", 1, 13, 1);
        heats("hall 3 1;warm 0 0 16;fan 0 0 2 16;fan 1 0 2 16", 0, 2, 14);
        heats("hall 3 1;warm 0 0 16;fan 1 0 2 16;fan 0 0 2 16", 2, 12, 2);
        heats("hall 3 1;warm 2 0 9;fan 2 0 4 4", 0, 4, 5);
        heats("hall 2 1;guest 0 0 3 1;fan 0 0 2 9", 0, 3);
        heats("hall 2 1;guest 0 0 9 1;fan 0 0 2 9;snow 1 0 4;snow 0 0 4", 0, 5);
        heats("hall 2 1;guest 0 0 20 1;snow 0 0 4", 14, 2);
        DeafSpot x = with("hall 3 3;warm 1 1 800", "go 0");
        due("tick", x.tick(0, 1), 1);
        int[] want = {0, 100, 0, 100, 400, 100, 0, 100, 0};
        for (int i = 0; i < 9; i++) {
            due("cross " + i, x.seat(i % 3, i / 3, 0), want[i]);
        }
        String[] ways = {"1 0", "2 1", "1 2", "0 1"};
        for (int way = 1; way <= 4; way++) {
            String seat = ways[way - 1];
            x = with("hall 3 3;warm 1 1 5;fan 1 1 " + way + " 5;fan " + seat + " " + way + " 3", "go 0");
            due("tick", x.tick(0, 1), 1);
            due("out by way " + way, x.count(10), 3);
            due("left there", x.seat(seat.charAt(0) - '0', seat.charAt(2) - '0', 0), 2);
        }
    }

    private static void heats(String hall, int... want) {
        DeafSpot x = with(hall, "go 0");
        due("tick", x.tick(0, 1), 1);
        int sum = 0;
        for (int i = 0; i < want.length; i++) {
            due(hall + ": heat of " + i, x.seat(i, 0, 0), want[i]);
            sum += want[i];
        }
        due(hall + ": all", x.count(9), sum);
        due(hall + ": none is lost", x.count(16) + x.count(12) - x.count(10) - x.count(11), sum);
    }

    private static void wanders() {
        String middle = "hall 3 3;spot 1 1";
        goesTo(middle, "go 1 if way=0", 1, 1);
        goesTo(middle, "go 1 if way=1", 1, 0);
        goesTo(middle, "go 1 if way=2", 2, 1);
        goesTo(middle, "go 1 if way=3", 1, 2);
        goesTo(middle, "go 1 if way=4", 0, 1);
        goesTo(middle, "go 1 if way>=2", 2, 1);
        goesTo(middle, "go 5", 1, 1);
        goesTo(middle, "go 0-1 if way=0", 1, 0);
        goesTo("hall 3 3;spot 2 2", "go way", 1, 2);
        goesTo("hall 3 3;spot 0 0", "go way", 0, 1);
        goesTo("hall 3 1;spot 0 0", "go way", 1, 0);
        goesTo("hall 1 1", "go way", 0, 0);
        goesTo(middle, "go 0-5;go way", 1, 1);
        goesTo(middle, "go 7 if way=2;go 8 if way>=1;go 9 if way=2;go 1", 1, 0);
        // heat counts as it is when all of it has moved
        goesTo("hall 3 1;spot 0 0;guest 1 0 1 1", "go heat", 1, 0);
        goesTo("hall 3 1;spot 1 0;warm 0 0 9;fan 0 0 2 9;warm 2 0 8;snow 1 0 9", "go heat", 2, 0);
    }

    private static void words() {
        goesTo("hall 2 2;warm 0 1 7", "go heat", 0, 1);
        goesTo("hall 3 2;spot 0 1;warm 2 1 7;warm 1 1 1", "go near", 1, 1);
        goesTo("hall 2 2;guest 1 0 0 1", "go guests", 1, 0);
        goesTo("hall 3 3;spot 1 1", "go x", 2, 1);
        goesTo("hall 3 3;spot 1 1", "go y", 1, 2);
        goesTo("hall 3 3;spot 1 1", "go way", 0, 1);
        goesTo("hall 5 5;spot 1 2", "go edge", 2, 2);
        goesTo("hall 5 5;spot 1 2", "go 0-edge", 0, 2);
        goesTo("hall 2 1", "go x if minute=0", 1, 0);
        goesTo("hall 2 1", "go x if minute=1", 0, 0);
        goesTo("hall 2 1", "go 5 if back=1;go x", 1, 0);
        DeafSpot x = with("hall 4 1", "go x if minute=2;go 0", "go back", "go x", "go 0-x");
        due("near sums all four", with("hall 3 3;spot 1 0;warm 1 0 1;warm 0 1 2;warm 2 1 4;warm 1 2 7;warm 0 0 6;warm 2 0 6",
            "go 1 if near=14 and y=1").there(0, 1, 1), 1);
        due("minute goes on", x.there(0, 2, 0), 0);
        due("minute goes on", x.there(0, 3, 0), 1);
        due("tick", x.tick(2, 2), 2);
        due("back is where it was ahead of the last minute", x.there(1, 1, 0), 1);
        due("back and back again", x.there(1, 2, 0), 2);
        due("tick", x.tick(3, 1), 3);
        due("back to 2", x.there(1, 1, 0), 2);
        due("guests away", with("hall 2 1;guest 1 0 0 1", "go guests").goes(0), true);
        x = with("hall 2 1;guest 1 0 0 1", "go guests");
        due("goes", x.goes(0), true);
        due("nobody sits there then", x.there(0, 1, 0), 0);
        // staying is where the spot was ahead of the last minute, if it stayed
        x = with("hall 2 1", "go 0", "go x-back*5");
        due("tick", x.tick(0, 1), 1);
        due("back of staying", x.there(1, 1, 0), 1);
        due("no back in the first minute", with("hall 2 1", "go 1-back*5").there(0, 1, 0), 0);
    }

    private static void reckoning() {
        String pair = "hall 2 1";
        goesTo(pair, "go 2+way*0", 0, 0);
        goesTo(pair, "go 2+3*way-5*way", 0, 0);
        goesTo(pair, "go 1 if 2+3*4-6/2%2=13 and x=1", 1, 0);
        goesTo(pair, "go 1 if 10-4-3=3 and x=1", 1, 0);
        goesTo(pair, "go 1 if 100/10/5*3%4=2 and x=1", 1, 0);
        goesTo(pair, "go 1 if 7/2=3 and x=1", 1, 0);
        goesTo(pair, "go 1 if 7%4=3 and x=1", 1, 0);
        goesTo(pair, "go 1 if 7/0=0 and 7%0=0 and 7%0/0=0 and x=1", 1, 0);
        goesTo(pair, "go 0-way", 0, 0);
        // 99999 four times over is 7762279691451841921 in 64 bits, and doubled below 0
        goesTo(pair, "go 99999*99999*99999*99999*x", 1, 0);
        goesTo(pair, "go 99999*99999*99999*99999*way", 0, 0);
        goesTo(pair, "go 99999*99999*99999*99999*way%10", 0, 0);
        goesTo(pair, "go 1 if 99999*99999*99999*99999*way%10=0-4", 1, 0);
        goesTo(pair, "go 1 if 99999*99999*99999*99999*way/99999/99999/99999=0-2922", 1, 0);
    }

    private static void tests() {
        String pair = "hall 2 1";
        String[] holds = {"1<2", "1<=1", "1=1", "1>=1", "2>1", "not 1=2", "not not 1=1", "[1=1]", "1=1 or 1=2 and 1=3",
            "1=2 and 1=3 or 1=1", "not 1=2 and 1=1", "not [1=1 and 1=2]", "[1=2 or 1=1] and 1=1", "1=2 or 1=3 or 1=1",
            "1=2 or 1=1 and 2=2 or 1=3", "not 1=1 or 1=1", "1+1=2", "0-1<0"};
        String[] fails = {"1<1", "2<=1", "1=2", "1>=2", "1>1", "not 1=1", "[1=1 or 1=1] and 1=2", "1=1 and 1=1 and 1=2",
            "not [1=1 or 1=2]", "not 1=1 and 1=1", "1=2 and 1=1 or 1=2", "[[1=2]]", "1=2 and [1=1 or 1=1]"};
        for (String test : holds) {
            goesTo(pair, "go x if " + test + ";go 0", 1, 0);
        }
        for (String test : fails) {
            goesTo(pair, "go x if " + test + ";go 0", 0, 0);
        }
    }

    private static void ticks() {
        DeafSpot x = with(CELL, "go heat");
        due("tick 0", x.tick(0, 0), -1);
        due("tick -1", x.tick(0, -1), -1);
        due("tick 121", x.tick(0, 121), -1);
        due("no law", x.tick(1, 1), -1);
        due("no law", x.tick(-1, 1), -1);
        due("max", x.tick(0, Integer.MAX_VALUE), -1);
        due("now", x.count(6), 0);
        for (int i = 1; i <= 83; i++) {
            due("tick 120", x.tick(0, 120), 120 * i);
        }
        due("above 9999", x.tick(0, 40), -1);
        due("now", x.count(6), 9960);
        due("up to 9999", x.tick(0, 39), 9999);
        due("above 9999", x.tick(0, 1), -1);
        due("given", x.count(12), 99990);
        due("heat", x.count(9), 49995);
        due("a look ahead goes on", x.deaf(0, 60, 0), 60);
        due("deaf", x.guest(0, 4), 9999);
        due("log", x.count(15), 120);
    }

    private static void thereAndDeaf() {
        DeafSpot x = with("hall 10 8;guest 3 0 0 1;guest 9 0 0 1;guest 0 5 0 1", "go x", "go y");
        for (int n = 0; n <= 60; n += 3) {
            due("there x", x.there(0, n, 0), Math.min(9, n));
            due("there y", x.there(0, n, 1), 0);
            due("there y", x.there(1, n, 1), Math.min(7, n));
            due("deaf once", x.deaf(0, n, 0), n >= 3 ? 1 : 0);
            due("deaf on", x.deaf(0, n, 1), Math.max(0, n - 8));
            due("deaf never", x.deaf(0, n, 2), 0);
        }
        due("what 2", x.there(0, 1, 2), -1);
        due("what -1", x.there(0, 1, -1), -1);
        due("n 61", x.there(0, 61, 0), -1);
        due("n -1", x.there(0, -1, 0), -1);
        due("law 2", x.there(2, 1, 0), -1);
        due("law -1", x.there(-1, 1, 0), -1);
        due("deaf n 61", x.deaf(0, 61, 0), -1);
        due("deaf n -1", x.deaf(0, -1, 0), -1);
        due("deaf nobody", x.deaf(0, 1, 3), -1);
        due("deaf nobody", x.deaf(0, 1, -1), -1);
        due("deaf law", x.deaf(2, 1, 0), -1);
        due("goes", x.goes(1), true);
        due("one away is never deaf", x.deaf(0, 60, 1), 0);
        due("nothing has changed", x.count(6) + x.count(15) + x.guest(0, 4) + x.count(7), 0);
        due("tick", x.tick(0, 3), 3);
        due("those ahead alone", x.deaf(0, 5, 0), 0);
    }

    private static void critics() {
        DeafSpot x = with("hall 4 1;guest 1 0 0 1;guest 3 0 0 1;guest 2 0 0 1", "go x");
        due("who", x.critic(0, 0, 0), 0);
        due("how often", x.critic(0, 0, 1), 0);
        due("of several the least", x.critic(0, 3, 0), 0);
        due("who", x.critic(0, 4, 0), 1);
        due("how often", x.critic(0, 60, 1), 58);
        due("n 61", x.critic(0, 61, 0), -1);
        due("n -1", x.critic(0, -1, 0), -1);
        due("law", x.critic(1, 1, 0), -1);
        due("what 2", x.critic(0, 1, 2), -1);
        due("what -1", x.critic(0, 1, -1), -1);
        due("tick", x.tick(0, 9), 9);
        due("ahead alone", x.critic(0, 2, 1), 2);
        for (int g = 0; g < 3; g++) {
            due("goes", x.goes(g), true);
        }
        due("away, but guests", x.critic(0, 5, 0), 0);
        due("away, but guests", x.critic(0, 5, 1), 0);
        x = with("hall 4 1", "go x");
        due("no guests", x.critic(0, 5, 0), -2);
        due("no guests", x.critic(0, 5, 1), -2);
        due("no guests, what 2", x.critic(0, 5, 2), -1);
    }

    private static void seatedAndChanged() {
        DeafSpot x = with(ROW, "go heat", "go x");
        due("seated", x.seated(0, 1, 0, 0), 0);
        due("seated", x.seated(0, 1, 0, 1), 1);
        due("seated", x.seated(0, 1, 0, 2), 0);
        due("none", x.seated(0, 1, 1, 0), -2);
        due("none", x.seated(0, 1, 1, 2), -2);
        due("now: the spot is free, one goes there", x.seated(0, 0, 1, 0), 1);
        due("now", x.seated(0, 0, 1, 1), 1);
        due("another one goes", x.seated(1, 2, 1, 0), 0);
        due("n 30", x.seated(1, 30, 1, 1), 1);
        due("n 31", x.seated(1, 31, 1, 1), -1);
        due("n -1", x.seated(1, -1, 1, 1), -1);
        due("law", x.seated(2, 1, 1, 1), -1);
        due("nobody", x.seated(0, 1, 2, 0), -1);
        due("nobody", x.seated(0, 1, -1, 0), -1);
        due("what 3", x.seated(0, 1, 0, 3), -1);
        due("what -1", x.seated(0, 1, 0, -1), -1);
        due("changed", x.changed(0, 1, 0), 1);
        due("none", x.changed(0, 1, 1), -2);
        due("changed", x.changed(1, 2, 0), 1);
        due("n 30", x.changed(1, 30, 0), 1);
        due("n 31", x.changed(1, 31, 0), -1);
        due("n -1", x.changed(1, -1, 0), -1);
        due("law", x.changed(2, 1, 0), -1);
        due("nobody", x.changed(0, 1, 2), -1);
        due("nobody", x.changed(0, 1, -1), -1);
        due("nothing has changed", x.guest(0, 0) + x.count(6), 0);
        due("goes", x.goes(0), true);
        due("away", x.seated(0, 1, 0, 0), -1);
        due("away", x.changed(0, 1, 0), -1);
        due("alone", x.changed(0, 1, 1), -2);
        due("one away isn't seated", x.seated(1, 2, 1, 0), -2);
        // the least guest first, then seats by rows
        x = with("hall 3 3;guest 2 2 0 1;guest 0 0 0 1;guest 1 1 0 1;spot 1 1", "go 0", "go guests*9-way*0-x-y if minute=0;go 0");
        due("the first free seat", x.seated(0, 5, 2, 0), 0);
        due("x", x.seated(0, 5, 2, 1), 1);
        due("y", x.seated(0, 5, 2, 2), 0);
        due("changed: others", x.changed(0, 5, 2), 1);
        due("changed: 0 and 2", x.changed(0, 5, 0), 2);
        due("changed: 1 and 2", x.changed(0, 5, 1), 18);
        due("seated where it goes", x.seated(1, 1, 0, 0), 0);
        due("seated where it goes", x.seated(1, 1, 0, 1), 1);
        due("seated where it goes", x.seated(1, 1, 0, 2), 0);
    }

    private static void barons() {
        DeafSpot x = with(ROW, "go heat", "go guests*9+way");
        due("without", x.without(0, 1, 0), 1);
        due("without", x.without(0, 1, 1), 0);
        due("without, by guests", x.without(1, 1, 0), 2);
        due("without, by guests", x.without(1, 1, 1), 0);
        due("n 0", x.without(1, 0, 0), 0);
        due("n 60", x.without(0, 60, 1) >= 0, true);
        due("n 61", x.without(0, 61, 0), -1);
        due("n -1", x.without(0, -1, 0), -1);
        due("law", x.without(2, 1, 0), -1);
        due("nobody", x.without(0, 1, 2), -1);
        due("nobody", x.without(0, 1, -1), -1);
        due("baron", x.baron(1, 1, 0), 0);
        due("how far", x.baron(1, 1, 1), 2);
        due("of several the least", x.baron(0, 0, 0), 0);
        due("how far", x.baron(0, 0, 1), 0);
        due("what 2", x.baron(0, 1, 2), -1);
        due("what -1", x.baron(0, 1, -1), -1);
        due("n 61", x.baron(0, 61, 0), -1);
        due("n -1", x.baron(0, -1, 0), -1);
        due("law", x.baron(2, 1, 0), -1);
        due("led", x.led(0, 1), 1);
        due("led", x.led(1, 1), 1);
        due("led now", x.led(1, 0), 0);
        due("led n 61", x.led(0, 61), -1);
        due("led n -1", x.led(0, -1), -1);
        due("led law", x.led(2, 1), -1);
        due("change", x.change(0, 1), true);
        due("led by the other end", x.led(0, 1), 1);
        due("led by who sits there", x.led(1, 1), 2);
        due("baron", x.baron(1, 1, 0), 1);
        due("goes", x.goes(1), true);
        due("without one away", x.without(0, 1, 1), -1);
        due("baron", x.baron(0, 1, 0), 0);
        due("goes", x.goes(0), true);
        due("nobody is there", x.baron(0, 1, 0), -2);
        due("nobody is there", x.baron(0, 1, 1), -2);
        due("nobody is there, what 2", x.baron(0, 1, 2), -1);
        due("led", x.led(0, 1), 0);
        x = with("hall 3 3;spot 1 1;guest 0 1 9 1;guest 1 0 9 1;guest 2 1 9 1", "go heat");
        due("first of like ways: up", x.there(0, 1, 1), 0);
        due("led", x.led(0, 1), 2);
        due("baron", x.baron(0, 1, 0), 1);
        due("from up to the right", x.baron(0, 1, 1), 2);
    }

    private static void fans() {
        DeafSpot x = with(ROW, "go heat", "go x");
        due("strength", x.fanned(0, 1, 1, 0, 0), 5);
        due("x", x.fanned(0, 1, 1, 0, 1), 0);
        due("y", x.fanned(0, 1, 1, 0, 2), 0);
        due("way", x.fanned(0, 1, 1, 0, 3), 2);
        due("none", x.fanned(0, 1, 2, 0, 0), -2);
        due("none", x.fanned(0, 1, 2, 0, 3), -2);
        due("the least", x.fanned(1, 10, 2, 0, 0), 1);
        due("first seat", x.fanned(1, 10, 2, 0, 1), 0);
        due("first way", x.fanned(1, 10, 2, 0, 3), 1);
        due("now", x.fanned(0, 0, 1, 0, 0), 1);
        due("not now", x.fanned(0, 0, 0, 0, 0), -2);
        due("n 11", x.fanned(1, 11, 2, 0, 0), -1);
        due("n -1", x.fanned(1, -1, 2, 0, 0), -1);
        due("law", x.fanned(2, 1, 2, 0, 0), -1);
        due("seat", x.fanned(0, 1, 3, 0, 0), -1);
        due("seat", x.fanned(0, 1, 0, 1, 0), -1);
        due("seat", x.fanned(0, 1, -1, 0, 0), -1);
        due("what 4", x.fanned(0, 1, 1, 0, 4), -1);
        due("what -1", x.fanned(0, 1, 1, 0, -1), -1);
        due("no fan has come", x.count(3), 0);
        // the heat that draws the spot is blown out
        x = with("hall 2 1;warm 1 0 1", "go heat");
        due("out by way 1", x.fanned(0, 1, 0, 0, 0), 1);
        due("from 1 0", x.fanned(0, 1, 0, 0, 1), 1);
        due("up", x.fanned(0, 1, 0, 0, 3), 1);
        // all 9, or all 10, must go out
        due("strength 9", with("hall 2 1;warm 1 0 9", "go 1 if heat=0 and near=0 and x=1").fanned(0, 1, 1, 0, 0), 9);
        due("strength 10", with("hall 2 1;warm 1 0 10", "go 1 if heat=0 and near=0 and x=1").fanned(0, 1, 1, 0, 0), -2);
        // no way leads from the end of a row to the next one
        due("no such way", with("hall 2 2;warm 1 0 7", "go 1 if heat>0 and x=0 and y=1").fanned(0, 1, 0, 1, 0), -2);
        // a seventh fan blows behind the other six: it has what they brought
        x = with("hall 3 1;spot 2 0;warm 0 0 6;fan 0 0 2 1;fan 0 0 2 1;fan 0 0 2 1;fan 0 0 2 1;fan 0 0 2 1;fan 0 0 2 1", "go heat");
        due("as it is", x.there(0, 1, 0), 1);
        due("seventh", x.fanned(0, 1, 2, 0, 0), 3);
        due("x", x.fanned(0, 1, 2, 0, 1), 1);
        due("way", x.fanned(0, 1, 2, 0, 3), 2);
        due("still six", x.count(3), 6);
        due("as it is", x.there(0, 1, 0), 1);
    }

    private static void spans() {
        DeafSpot x = with(ROW, "go heat");
        int[] want = {0, 1, 0, 0, 2};
        for (int what = 0; what < 5; what++) {
            due("span " + what, x.span(0, 1, 0, 16, what), want[what]);
        }
        due("d 0", x.span(0, 1, 0, 0, 4), 1);
        due("d 0", x.span(0, 1, 0, 0, 1), 0);
        due("d 20", x.span(0, 1, 1, 20, 1), 2);
        due("d 20", x.span(0, 1, 1, 20, 0), 0);
        due("d 21", x.span(0, 1, 1, 21, 1), -1);
        due("d -1", x.span(0, 1, 1, -1, 1), -1);
        due("n 60", x.span(0, 60, 0, 0, 2), 0);
        due("n 61", x.span(0, 61, 0, 0, 2), -1);
        due("n -1", x.span(0, -1, 0, 0, 2), -1);
        due("law", x.span(1, 1, 0, 0, 2), -1);
        due("nobody", x.span(0, 1, 2, 0, 2), -1);
        due("nobody", x.span(0, 1, -1, 0, 2), -1);
        due("what 5", x.span(0, 1, 0, 0, 5), -1);
        due("what -1", x.span(0, 1, 0, 0, -1), -1);
        due("warm as it was", x.guest(0, 2), 16);
        due("goes", x.goes(0), true);
        due("away", x.span(0, 1, 0, 1, 0), -1);
        // from 0 on: with d 3 the warmth 2 is 0 to 5, and 0 alone leaves the spot where it is
        x = with("hall 1 3;spot 0 1;guest 0 2 2 1", "go heat");
        due("least y", x.span(0, 1, 0, 3, 2), 1);
        due("greatest y", x.span(0, 1, 0, 3, 3), 2);
        due("with 1 to 3 it goes", x.span(0, 1, 0, 1, 2), 2);
        // up to 99: heat 100 is never there
        x = with("hall 2 1;guest 1 0 98 1", "go 1 if heat>87 and x=1;go 0");
        due("99 gives 12 away and keeps 87", x.span(0, 1, 0, 20, 4), 1);
        x = with("hall 2 1;guest 1 0 98 1", "go 1 if heat>86 and x=1;go 0");
        due("99 keeps 87", x.span(0, 1, 0, 1, 4), 2);
    }

    private static void spies() {
        DeafSpot x = with("hall 6 1;guest 0 0 0 1;guest 3 0 0 1;guest 5 0 0 1", "go x", "go 0");
        // free are 1, 2 and 4: at 1 hear 0 and 1, at 2 hear 0, 1, at 4 hear 1 and 2
        due("minute", x.spy(1, 1, 0, 0, 0), 1);
        due("the first free seat", x.spy(1, 1, 0, 0, 1), 1);
        due("1 alone, as 0 is deaf", x.spy(1, 1, 2, 1, 1), 1);
        due("1 and 2", x.spy(1, 1, 6, 1, 1), 4);
        due("row", x.spy(1, 1, 6, 1, 2), 0);
        due("0 is deaf", x.spy(1, 30, 1, 0, 0), -2);
        due("0 and 1, once it has gone", x.spy(0, 1, 3, 0, 0), 1);
        due("0 without 1: the third minute", x.spy(0, 30, 1, 2, 0), 3);
        due("on 1 0", x.spy(0, 30, 1, 2, 1), 1);
        due("too few minutes", x.spy(0, 2, 1, 2, 0), -2);
        due("n 0", x.spy(0, 0, 0, 0, 0), -2);
        due("n 31", x.spy(0, 31, 0, 0, 0), -1);
        due("n -1", x.spy(0, -1, 0, 0, 0), -1);
        due("law", x.spy(2, 1, 0, 0, 0), -1);
        due("in both", x.spy(0, 1, 3, 1, 0), -1);
        due("no such guest", x.spy(0, 1, 8, 0, 0), -1);
        due("no such guest", x.spy(0, 1, 0, 8, 0), -1);
        due("below 0", x.spy(0, 1, -1, 0, 0), -1);
        due("below 0", x.spy(0, 1, 0, -8, 0), -1);
        due("what 3", x.spy(0, 1, 0, 0, 3), -1);
        due("what -1", x.spy(0, 1, 0, 0, -1), -1);
        due("n 0, what 3", x.spy(0, 0, 0, 0, 3), -1);
        due("goes", x.goes(1), true);
        due("one away doesn't hear", x.spy(0, 30, 2, 0, 0), -2);
        due("one away doesn't hear", x.spy(0, 1, 1, 2, 0), 1);
        due("no free seat", with("hall 1 1;guest 0 0 0 1", "go 0").spy(0, 30, 0, 0, 0), -2);
        // rows count like columns
        x = with("hall 1 5;guest 0 0 0 1;guest 0 4 0 1", "go 0", "go y");
        due("two rows", x.spy(1, 1, 3, 0, 2), 2);
        due("two columns and rows", with("hall 4 4;guest 3 3 0 1", "go 0").spy(0, 1, 1, 0, 1), 1);
        due("two columns and rows", with("hall 4 4;guest 3 3 0 1", "go 0").spy(0, 1, 1, 0, 2), 1);
    }

    private static void draws() {
        DeafSpot x = with(ROW, "go heat");
        due("seed", x.seed(5), 0);
        due("seed", x.seed(Integer.MAX_VALUE), 5);
        due("seed -1", x.seed(-1), -1);
        due("seed min", x.seed(Integer.MIN_VALUE), -1);
        due("seed", x.seed(0), Integer.MAX_VALUE);
        due("count(13)", x.count(13), 0);
        // from 0 on: 0, 68: the spot goes to the right; then 86, 53: to the left; then 56, 51
        due("ends of 0", x.evenings(0, 1, 1, 0, 0), 0);
        due("ends of 1", x.evenings(0, 1, 1, 1, 0), 1);
        due("ends of 0 in two", x.evenings(0, 2, 1, 0, 0), 1);
        due("ends of 1 in two", x.evenings(0, 2, 1, 1, 0), 1);
        due("minutes of 1", x.evenings(0, 1, 30, 1, 1), 30);
        due("minutes of 0", x.evenings(0, 2, 30, 0, 1), 30);
        due("none out", x.evenings(0, 10, 30, 0, 2), 0);
        due("x as it was", x.count(13), 0);
        due("warm as it was", x.guest(0, 2), 16);
        due("now as it was", x.count(6), 0);
        due("m 0", x.evenings(0, 0, 1, 0, 0), -1);
        due("m 11", x.evenings(0, 11, 1, 0, 0), -1);
        due("n 0", x.evenings(0, 1, 0, 0, 0), -1);
        due("n 31", x.evenings(0, 1, 31, 0, 0), -1);
        due("law", x.evenings(1, 1, 1, 0, 0), -1);
        due("nobody", x.evenings(0, 1, 1, 2, 0), -1);
        due("nobody", x.evenings(0, 1, 1, -1, 0), -1);
        due("what 3", x.evenings(0, 1, 1, 0, 3), -1);
        due("what -1", x.evenings(0, 1, 1, 0, -1), -1);
        // who is away draws nothing: 1 has the first draw, 0
        due("goes", x.goes(0), true);
        due("1 is cold then", x.evenings(0, 1, 1, 1, 0), 0);
        due("one away", x.evenings(0, 1, 1, 0, 1), 0);
        x = with("hall 1 1;guest 0 0 1 1;fan 0 0 3 50;warm 0 0 100", "go 0");
        due("tick", x.tick(0, 1), 1);
        due("out", x.count(10), 50);
        // 51 are left; draws 0 and 68: 50 go out in each evening
        due("out of these evenings alone", x.evenings(0, 2, 1, 0, 2), 100);
        // the first evening gives nothing: 51 in all go out; the second has 51 + 68, then 69 + 68
        due("out in two minutes each", x.evenings(0, 2, 2, 0, 2), 51 + 100);
        due("deaf ahead alone", x.evenings(0, 2, 2, 0, 1), 4);
    }

    private static void logs() {
        DeafSpot x = with("hall 4 2;spot 0 1", "go x", "go 0");
        due("empty", x.log(1, 0), -1);
        due("hushed", x.hushed(0, 1), 0);
        due("tick", x.tick(0, 3), 3);
        due("last", x.log(1, 0), 3);
        due("before", x.log(2, 0), 2);
        due("first", x.log(3, 0), 1);
        due("row", x.log(3, 1), 1);
        due("none", x.log(4, 0), -1);
        due("0", x.log(0, 0), -1);
        due("-1", x.log(-1, 0), -1);
        due("what 2", x.log(1, 2), -1);
        due("what -1", x.log(1, -1), -1);
        due("kept", x.count(15), 3);
        due("hushed", x.hushed(2, 1), 1);
        due("hushed where it began", x.hushed(0, 1), 0);
        due("hushed", x.hushed(2, 0), 0);
        due("hushed beyond", x.hushed(4, 0), -1);
        due("hushed beyond", x.hushed(0, 2), -1);
        due("hushed beyond", x.hushed(-1, 0), -1);
        due("tick", x.tick(1, 117), 120);
        due("kept", x.count(15), 120);
        due("oldest", x.log(120, 0), 1);
        due("none", x.log(121, 0), -1);
        due("hushed", x.hushed(3, 1), 118);
        due("tick", x.tick(1, 1), 121);
        due("kept", x.count(15), 120);
        due("oldest", x.log(120, 0), 2);
        due("none", x.log(121, 0), -1);
        due("gone", x.hushed(1, 1), 0);
        due("tick", x.tick(1, 120), 241);
        due("hushed", x.hushed(3, 1), 120);
        due("a look ahead isn't kept", x.there(0, 5, 0), 3);
        due("kept", x.log(120, 0), 3);
    }

    private static void images() {
        DeafSpot x = with("hall 3 2;guest 0 0 16 1;guest 2 0 5 2;fan 0 0 1 3;snow 1 1 1;warm 1 0 40;spot 1 1", "go heat", "go back*9+x");
        due("image 4", x.image(4), -1);
        due("image -1", x.image(-1), -1);
        due("back of none", x.back(0), -1);
        due("back 4", x.back(4), -1);
        due("back -1", x.back(-1), -1);
        due("seed", x.seed(9), 0);
        due("tick", x.tick(0, 4), 4);
        due("image", x.image(3), 4);
        String kept = all(x);
        due("tick", x.tick(1, 30), 34);
        due("warms", x.warms(0, 3), 16);
        due("goes", x.goes(1), true);
        due("sits", x.sits(0, 2, 1), true);
        due("seed", x.seed(1000), 9);
        due("other", all(x).equals(kept), false);
        due("image", x.image(0), 34);
        String later = all(x);
        due("hall", Check.hall(x, "hall 1 1"), 0);
        due("law", Check.law(x, "go 0-heat"), 2);
        Check.tape(x, "bytes");
        due("back", x.back(3), 4);
        due("all as it was", all(x).equals(kept), true);
        due("laws stay", x.count(5), 3);
        due("tape stays", x.count(14), 5);
        due("back of the other", x.back(0), 34);
        due("all as it was", all(x).equals(later), true);
        due("back again", x.back(3), 4);
        due("all as it was", all(x).equals(kept), true);
        due("back of none", x.back(1), -1);
        due("image anew", x.image(0), 4);
        due("tick", x.tick(2, 1), 5);
        due("back", x.back(0), 4);
        due("all as it was", all(x).equals(kept), true);
        // the log of another past has come in between
        due("hall", Check.hall(x, "hall 3 2;spot 2 1"), 0);
        due("tick", x.tick(1, 120), 120);
        due("back", x.back(3), 4);
        due("all as it was", all(x).equals(kept), true);
        x = new DeafSpot();
        due("without a hall", x.image(2), 0);
        due("hall", Check.hall(x, CELL), 1);
        due("back", x.back(2), 0);
        due("no hall", x.count(0), 0);
        due("no spot", x.count(8), -1);
        due("no guests", x.count(2), 0);
        due("no fan", x.fan(0, 0), -1);
    }

    /** All answers that an image keeps. */
    private static String all(DeafSpot x) {
        StringBuilder text = new StringBuilder();
        for (int what = 0; what < 17; what++) {
            text.append(what == 5 || what == 14 ? 0 : x.count(what)).append(' ');
        }
        for (int i = 0; i < 6; i++) {
            for (int what = 0; what < 5; what++) {
                text.append(x.guest(i, what)).append(' ').append(x.fan(i, what)).append(' ');
                text.append(x.seat(i % 3, i / 3, what)).append(' ').append(x.log(i + 1, what)).append(' ');
            }
            text.append(x.hushed(i % 3, i / 3)).append(' ').append(x.there(1, i, 0)).append(x.there(1, i, 1)).append(' ');
            text.append(x.evenings(0, 3, 4, 0, i % 3)).append(' ');
        }
        return text.toString();
    }

    /** A search that was made before tells nothing once the evening, or the question, is another one. */
    private static void searchesAfterChanges() {
        DeafSpot x = with("hall 3 1;spot 2 0;guest 1 0 99 1;guest 0 0 1 1", "go heat", "go 0");
        due("image", x.image(1), 0);
        int[] calls = {0, 1, 2, 3, 4, 5, 6};
        int[] others = new int[calls.length];
        for (int kind = 0; kind < 3; kind++) {
            for (int call : calls) {
                due("hall", Check.hall(x, ROW), 2);
                String before = search(x, kind);
                byHand(x, call);
                DeafSpot fresh = with("hall 3 1;spot 2 0;guest 1 0 99 1;guest 0 0 1 1", "go heat", "go 0");
                due("image", fresh.image(1), 0);
                due("hall", Check.hall(fresh, ROW), 2);
                byHand(fresh, call);
                String behind = search(x, kind);
                due("search " + kind + " behind " + call, behind, search(fresh, kind));
                others[call] += behind.equals(before) ? 0 : 1;
            }
        }
        for (int call : calls) {
            due("something is otherwise behind " + call, others[call] > 0, true);
        }
        // the same numbers mean another thing in another search
        due("hall", Check.hall(x, ROW), 2);
        String[] alone = {search(x, 0), search(x, 1), search(x, 2)};
        for (int kind = 0; kind < 9; kind++) {
            due("first", search(x, kind / 3), alone[kind / 3]);
            due("then", search(x, kind % 3), alone[kind % 3]);
            due("and again", search(x, kind / 3), alone[kind / 3]);
        }
        x = with("hall 3 3;guest 1 1 9 1;guest 0 0 9 2;spot 1 1", "go heat", "go x");
        due("fanned", x.fanned(0, 1, 1, 1, 0), 1);
        due("fanned, other law", x.fanned(1, 1, 1, 1, 0), -2);
        due("fanned, first law", x.fanned(0, 1, 1, 1, 0), 1);
        due("fanned, other seat", x.fanned(1, 1, 2, 1, 0), 1);
        due("fanned, other n", x.fanned(1, 0, 2, 1, 0), -2);
        due("seated", x.seated(1, 0, 0, 0), 1);
        due("seated, other guest", x.seated(1, 0, 1, 0), -2);
        due("span", x.span(0, 1, 0, 9, 4) > 1, true);
        due("span, other d", x.span(0, 1, 0, 0, 4), 1);
    }

    /** Each call that makes the evening another one. */
    private static void byHand(DeafSpot x, int call) {
        switch (call) {
            case 0: due("warms", x.warms(0, 0), 16); break;
            case 1: due("change", x.change(0, 1), true); break;
            case 2: due("goes", x.goes(0), true); break;
            case 3: due("sits", x.sits(0, 1, 0), true); break;
            case 4: due("tick", x.tick(0, 2), 2); break;
            case 5: due("hall", Check.hall(x, "hall 3 1;spot 2 0;guest 1 0 9 1;guest 0 0 1 1"), 2); break;
            default: due("back", x.back(1), 0); break;
        }
    }

    private static void due(String call, String got, String want) {
        due(call + ": " + got + ", due is " + want, got.equals(want), true);
    }

    /** All parts of one search, whose numbers are alike for all three kinds. */
    private static String search(DeafSpot x, int kind) {
        StringBuilder text = new StringBuilder();
        for (int what = 0; what < 5; what++) {
            text.append(' ').append(kind == 0 ? x.span(0, 1, 0, 0, what) : kind == 1 ? x.fanned(0, 1, 0, 0, what) : x.seated(0, 1, 0, what));
        }
        return text.toString();
    }
}
