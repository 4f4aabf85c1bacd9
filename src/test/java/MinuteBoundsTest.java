/** The bounds of a minute: what is given, fanned, melted and spread, where the spot goes, and what is counted. */
public final class MinuteBoundsTest {
    private static final Check CHECK = new Check();

    public static void main(String[] args) {
        ways();
        gains();
        awayGivesNothing();
        strengthOrAll();
        beyondTheHall();
        fansByNumber();
        coldOrAll();
        snowsByNumber();
        eighthDownwards();
        toEachSeatByWays();
        aheadOfIt();
        stepsInOrder();
        greatest();
        leastWay();
        noWayBeyond();
        firstClause();
        noClause();
        now();
        deafBehindTheFifth();
        logKeeps();
        logGoesRound();
        givenIsCounted();
        noHeatIsLost();
        CHECK.finish();
    }

    private static void sentence(String words) {
        CHECK.sentence(words);
    }

    private static void due(String call, long got, long want) {
        CHECK.due(call, got, want);
    }

    private static void due(String call, boolean got, boolean want) {
        CHECK.due(call, got, want);
    }

    /** A hall behind one minute in which the spot stays. */
    private static DeafSpot minute(String hall) {
        DeafSpot x = CHECK.with(hall, "go 0");
        due("tick", x.tick(0, 1), 1);
        return x;
    }

    /** The heat of all seats behind one minute, by rows. */
    private static void heats(String hall, int... want) {
        DeafSpot x = minute(hall);
        int columns = x.count(0);
        due("seats of " + hall, columns * x.count(1), want.length);
        for (int i = 0; i < want.length; i++) {
            due(hall + ": heat of " + i, x.seat(i % columns, i / columns, 0), want[i]);
        }
    }

    /** What has gone out or melted behind one minute. */
    private static void counts(String hall, int what, int want) {
        due(hall + ": count(" + what + ")", minute(hall).count(what), want);
    }

    private static void goesTo(String hall, String law, int x, int y) {
        DeafSpot spot = CHECK.with(hall, law);
        due("tick", spot.tick(0, 1), 1);
        due(hall + " by " + law + ": x", spot.count(7), x);
        due(hall + " by " + law + ": y", spot.count(8), y);
    }

    private static void ways() {
        sentence("WAYS: 0 stay, 1 up, 2 to the right, 3 down, 4 to the left.");
        goesTo("hall 3 3;spot 1 1", "go 1 if way=0", 1, 1);
        goesTo("hall 3 3;spot 1 1", "go 1 if way=1", 1, 0);
        goesTo("hall 3 3;spot 1 1", "go 1 if way=2", 2, 1);
        goesTo("hall 3 3;spot 1 1", "go 1 if way=3", 1, 2);
        goesTo("hall 3 3;spot 1 1", "go 1 if way=4", 0, 1);
        heats("hall 3 3;warm 1 1 7;fan 1 1 1 7", 0, 7, 0, 0, 0, 0, 0, 0, 0);
        heats("hall 3 3;warm 1 1 7;fan 1 1 2 7", 0, 0, 0, 0, 0, 7, 0, 0, 0);
        heats("hall 3 3;warm 1 1 7;fan 1 1 3 7", 0, 0, 0, 0, 0, 0, 0, 7, 0);
        heats("hall 3 3;warm 1 1 7;fan 1 1 4 7", 0, 0, 0, 7, 0, 0, 0, 0, 0);
    }

    private static void gains() {
        sentence("(1) each GUEST's SEAT gains his WARM.");
        heats("hall 1 1;guest 0 0 0 1", 0);
        heats("hall 1 1;guest 0 0 1 1", 1);
        heats("hall 1 1;guest 0 0 99 1", 99);
        heats("hall 1 1;guest 0 0 99 1;warm 0 0 9999", 10098);
        heats("hall 3 1;guest 2 0 7 1;guest 0 0 5 1", 5, 0, 7);
    }

    private static void awayGivesNothing() {
        sentence("away: he gives nothing, sits nowhere");
        DeafSpot x = CHECK.with("hall 1 1;guest 0 0 9 1", "go 0");
        due("goes", x.goes(0), true);
        due("tick", x.tick(0, 1), 1);
        due("heat", x.seat(0, 0, 0), 0);
        due("given", x.count(12), 0);
        due("who sits there", x.seat(0, 0, 1), -1);
        due("x", x.guest(0, 0), -1);
        due("y", x.guest(0, 1), -1);
        due("deaf", x.guest(0, 4), 0);
        due("comes", x.sits(0, 0, 0), true);
        due("tick", x.tick(0, 1), 2);
        due("heat", x.seat(0, 0, 0), 9);
        due("given", x.count(12), 9);
        due("deaf", x.guest(0, 4), 1);
    }

    private static void strengthOrAll() {
        sentence("so much of the HEAT of its SEAT as its STRENGTH (or all) goes to the SEAT by its WAY");
        heats("hall 2 1;warm 0 0 0;fan 0 0 2 5", 0, 0);
        heats("hall 2 1;warm 0 0 1;fan 0 0 2 5", 0, 1);
        heats("hall 2 1;warm 0 0 4;fan 0 0 2 5", 0, 4);
        heats("hall 2 1;warm 0 0 5;fan 0 0 2 5", 0, 5);
        heats("hall 2 1;warm 0 0 6;fan 0 0 2 5", 1, 5);
        heats("hall 2 1;warm 0 0 7;fan 0 0 2 1", 6, 1);
        counts("hall 1 1;warm 0 0 98;fan 0 0 1 99", 10, 98);
        counts("hall 1 1;warm 0 0 99;fan 0 0 1 99", 10, 99);
        counts("hall 1 1;warm 0 0 100;fan 0 0 1 99", 10, 99);
    }

    private static void beyondTheHall() {
        sentence("beyond the hall it is OUT");
        for (int way = 1; way <= 4; way++) {
            counts("hall 1 1;warm 0 0 7;fan 0 0 " + way + " 3", 10, 3);
        }
        String all = "hall 3 3;warm 0 0 7;warm 2 0 7;warm 0 2 7;warm 2 2 7";
        int[][] corners = {{0, 0, 1, 4}, {2, 0, 1, 2}, {0, 2, 3, 4}, {2, 2, 2, 3}};
        for (int[] c : corners) {
            for (int way = 1; way <= 4; way++) {
                counts(all + ";fan " + c[0] + " " + c[1] + " " + way + " 5", 10, way == c[2] || way == c[3] ? 5 : 0);
            }
        }
        // no row goes on in the next one
        heats("hall 2 2;warm 1 0 7;fan 1 0 2 5", 0, 2, 0, 0);
        heats("hall 2 2;warm 0 1 7;fan 0 1 4 5", 0, 0, 2, 0);
    }

    private static void fansByNumber() {
        sentence("(2) FANS, by their numbers");
        heats("hall 3 1;warm 0 0 7;fan 0 0 2 7;fan 1 0 2 7", 0, 0, 7);
        heats("hall 3 1;warm 0 0 7;fan 1 0 2 7;fan 0 0 2 7", 0, 7, 0);
        heats("hall 2 1;warm 0 0 7;fan 0 0 2 4;fan 0 0 2 4", 0, 7);
        heats("hall 2 1;warm 0 0 7;fan 0 0 2 7;fan 1 0 4 7;fan 0 0 2 7;fan 1 0 4 7;fan 0 0 2 7;fan 1 0 4 6", 6, 1);
    }

    private static void coldOrAll() {
        sentence("(3) SNOWS, by their numbers: so much as its COLD (or all) is MELTED.");
        counts("hall 1 1;snow 0 0 5", 11, 0);
        counts("hall 1 1;warm 0 0 4;snow 0 0 5", 11, 4);
        counts("hall 1 1;warm 0 0 5;snow 0 0 5", 11, 5);
        counts("hall 1 1;warm 0 0 6;snow 0 0 5", 11, 5);
        heats("hall 1 1;warm 0 0 4;snow 0 0 5", 0);
        heats("hall 1 1;warm 0 0 5;snow 0 0 5", 0);
        heats("hall 1 1;warm 0 0 6;snow 0 0 5", 1);
        counts("hall 1 1;warm 0 0 100;snow 0 0 99", 11, 99);
        counts("hall 1 1;warm 0 0 100;snow 0 0 1", 11, 1);
    }

    private static void snowsByNumber() {
        sentence("(3) SNOWS, by their numbers");
        counts("hall 1 1;warm 0 0 7;snow 0 0 5;snow 0 0 5", 11, 7);
        counts("hall 2 1;warm 0 0 7;warm 1 0 7;snow 0 0 5;snow 1 0 6", 11, 11);
        counts("hall 1 1;warm 0 0 99" + ";snow 0 0 9".repeat(8), 11, 72);
    }

    private static void eighthDownwards() {
        sentence("(4) Each SEAT (all as they are ahead of it) gives an eighth of its HEAT, downwards");
        heats("hall 2 1;warm 0 0 7", 7, 0);
        heats("hall 2 1;warm 0 0 8", 7, 1);
        heats("hall 2 1;warm 0 0 15", 14, 1);
        heats("hall 2 1;warm 0 0 16", 14, 2);
        heats("hall 2 1;warm 0 0 9999", 9999 - 1249, 1249);
    }

    private static void toEachSeatByWays() {
        sentence("to each SEAT by WAYS 1 to 4");
        heats("hall 1 1;warm 0 0 9999", 9999);
        heats("hall 3 3;warm 1 1 80", 0, 10, 0, 10, 40, 10, 0, 10, 0);
        heats("hall 3 3;warm 0 0 80", 60, 10, 0, 10, 0, 0, 0, 0, 0);
        heats("hall 3 3;warm 2 2 80", 0, 0, 0, 0, 0, 10, 0, 10, 60);
        heats("hall 3 3;warm 2 1 80", 0, 0, 10, 0, 10, 50, 0, 0, 10);
        heats("hall 1 3;warm 0 0 80", 70, 10, 0);
    }

    private static void aheadOfIt() {
        sentence("(all as they are ahead of it)");
        heats("hall 2 1;warm 0 0 80;warm 1 0 80", 80, 80);
        // what a seat is given is not given on: 7 and an eighth of 80 are not 17
        heats("hall 3 1;warm 0 0 80;warm 1 0 7", 70, 17, 0);
        heats("hall 3 1;warm 2 0 80;warm 1 0 7", 0, 17, 70);
        heats("hall 3 1;warm 1 0 80", 10, 60, 10);
    }

    private static void stepsInOrder() {
        sentence("A MINUTE by a LAW: (1)");
        // what is given is fanned, what was fanned melts, what is left spreads, and the spot goes by that
        heats("hall 2 1;guest 0 0 20 1;fan 0 0 2 20;snow 1 0 4", 2, 14);
        goesTo("hall 2 1;guest 0 0 20 1;fan 0 0 2 20;snow 1 0 4", "go x if heat=14", 1, 0);
        goesTo("hall 2 1;guest 0 0 20 1;fan 0 0 2 20;snow 1 0 4", "go x if near=2", 1, 0);
        counts("hall 2 1;guest 0 0 9 1;snow 0 0 9;fan 0 0 2 9", 11, 0);
    }

    private static void greatest() {
        sentence("(5) The SPOT goes to the SEAT by a WAY (0 to 4) whose SUM .. is greatest");
        goesTo("hall 3 3;spot 1 1", "go 1 if way=4;go 0", 0, 1);
        goesTo("hall 3 3;spot 1 1", "go 0-1 if way=0;go 0-2", 1, 1);
        goesTo("hall 3 3;spot 1 1", "go 0-way", 1, 1);
        goesTo("hall 3 3;spot 1 1", "go way", 0, 1);
        goesTo("hall 3 3;spot 1 1", "go 99999*99999 if way=2;go 99999*99999-1", 2, 1);
    }

    private static void leastWay() {
        sentence("of several the least WAY");
        goesTo("hall 3 3;spot 1 1", "go 7", 1, 1);
        for (int way = 0; way <= 4; way++) {
            int[] x = {1, 1, 2, 1, 0};
            int[] y = {1, 0, 1, 2, 1};
            goesTo("hall 3 3;spot 1 1", "go 1 if way>=" + way, x[way], y[way]);
        }
        goesTo("hall 3 3;spot 1 1", "go 1 if way=4 or way=1", 1, 0);
    }

    private static void noWayBeyond() {
        sentence("SEATS (x, y) of the hall, x to the right, y downwards");
        goesTo("hall 1 1", "go way", 0, 0);
        goesTo("hall 3 3;spot 0 0", "go 9 if way=1 or way=4;go 0", 0, 0);
        goesTo("hall 3 3;spot 2 0", "go 9 if way=1 or way=2;go 0", 2, 0);
        goesTo("hall 3 3;spot 0 2", "go 9 if way=3 or way=4;go 0", 0, 2);
        goesTo("hall 3 3;spot 2 2", "go 9 if way=3 or way=2;go 0", 2, 2);
        goesTo("hall 3 3;spot 2 2", "go way", 1, 2);
        goesTo("hall 10 8;spot 9 7", "go x+y", 9, 7);
        goesTo("hall 10 8;spot 0 0", "go 0-x-y", 0, 0);
    }

    private static void firstClause() {
        sentence("of the first CLAUSE without a TEST, or whose TEST holds");
        goesTo("hall 3 1;spot 1 0", "go 0;go x", 1, 0);
        goesTo("hall 3 1;spot 1 0", "go x;go 9 if x=0", 2, 0);
        goesTo("hall 3 1;spot 1 0", "go 3 if x=0;go 4 if x=0;go x", 0, 0);
        goesTo("hall 3 1;spot 1 0", "go 9 if 1=2;go x if 1=1;go 9-x", 2, 0);
    }

    private static void noClause() {
        sentence("0 without one");
        goesTo("hall 3 1;spot 1 0", "go 0-5 if way=0", 2, 0);
        goesTo("hall 3 1;spot 1 0", "go 5 if 1=2", 1, 0);
        goesTo("hall 3 1;spot 1 0", "go 0-1 if way=0;go 0-1 if way=2", 0, 0);
        goesTo("hall 3 1;spot 1 0", "go 1 if way=4;go 0-1 if way=0", 0, 0);
    }

    private static void now() {
        sentence("NOW (0 at first) is 1 more.");
        DeafSpot x = CHECK.with("hall 1 1", "go 0");
        due("0 at first", x.count(6), 0);
        due("1", x.tick(0, 1), 1);
        due("1", x.count(6), 1);
        due("121", x.tick(0, 120), 121);
        due("121", x.count(6), 121);
    }

    private static void deafBehindTheFifth() {
        sentence("Whoever sits where the SPOT is behind (5) is DEAF in this MINUTE (counted for each GUEST).");
        DeafSpot x = CHECK.with("hall 3 1;guest 0 0 0 0;guest 1 0 0 0;guest 2 0 0 0", "go x", "go 0");
        due("nobody yet", x.guest(0, 4) + x.guest(1, 4) + x.guest(2, 4), 0);
        due("tick", x.tick(0, 1), 1);
        due("where it was", x.guest(0, 4), 0);
        due("where it is", x.guest(1, 4), 1);
        due("where it will be", x.guest(2, 4), 0);
        due("tick", x.tick(0, 5), 6);
        due("1", x.guest(1, 4), 1);
        due("2", x.guest(2, 4), 5);
        due("change", x.change(0, 2), true);
        due("his minutes go with him", x.guest(2, 4), 5);
        due("tick", x.tick(1, 1), 7);
        due("who sits there now", x.guest(0, 4), 1);
        due("who sat there", x.guest(2, 4), 5);
    }

    private static void logKeeps() {
        sentence("The LOG keeps where the SPOT was behind the last 120 MINUTES.");
        DeafSpot x = CHECK.with("hall 10 1", "go 1 if way=2", "go 0");
        due("empty", x.count(15), 0);
        due("nothing ago", x.log(1, 0), -1);
        due("tick", x.tick(0, 1), 1);
        due("one", x.count(15), 1);
        due("behind it, not ahead of it", x.log(1, 0), 1);
        due("none before", x.log(2, 0), -1);
        due("tick", x.tick(1, 118), 119);
        due("119", x.count(15), 119);
        due("the first one", x.log(119, 0), 1);
        due("none before", x.log(120, 0), -1);
        due("tick", x.tick(0, 1), 120);
        due("120", x.count(15), 120);
        due("the first one still", x.log(120, 0), 1);
        due("none before", x.log(121, 0), -1);
        due("hushed", x.hushed(1, 0), 119);
        due("tick", x.tick(0, 1), 121);
        due("120 and no more", x.count(15), 120);
        due("the second one", x.log(120, 0), 1);
        due("none before", x.log(121, 0), -1);
        due("one of them has gone", x.hushed(1, 0), 118);
        due("hushed", x.hushed(2, 0), 1);
        due("hushed", x.hushed(3, 0), 1);
    }

    private static void logGoesRound() {
        sentence("The LOG keeps where the SPOT was behind the last 120 MINUTES.");
        // to and fro on ten seats: where it is tells the minute, up to 18 of them
        DeafSpot x = CHECK.with("hall 10 1", "go 1 if minute%18<9 and way=2;go 1 if minute%18>=9 and way=4");
        int[] ticks = {100, 19, 1, 1, 119, 120, 1};
        int now = 0;
        for (int n : ticks) {
            now += n;
            due("tick", x.tick(0, n), now);
            for (int ago : new int[] {1, 2, 100, 119, 120, 121}) {
                int minute = now - ago + 1;
                int there = minute % 18 <= 9 ? minute % 18 : 18 - minute % 18;
                due("at " + now + " log(" + ago + ")", x.log(ago, 0), ago > Math.min(120, now) ? -1 : there);
            }
        }
        int all = 0;
        for (int column = 0; column < 10; column++) {
            all += x.hushed(column, 0);
        }
        due("all of them", all, 120);
    }

    private static void givenIsCounted() {
        sentence("All HEAT that GUESTS have given is counted.");
        DeafSpot x = CHECK.with("hall 3 1;guest 0 0 99 0;guest 1 0 1 0;guest 2 0 0 0;warm 0 0 50;fan 0 0 1 99;snow 1 0 99", "go 0");
        due("none yet", x.count(12), 0);
        due("tick", x.tick(0, 1), 1);
        due("given", x.count(12), 100);
        due("warms", x.warms(2, 7), 0);
        due("tick", x.tick(0, 2), 3);
        due("given", x.count(12), 100 + 2 * 107);
        due("goes", x.goes(0), true);
        due("tick", x.tick(0, 1), 4);
        due("given", x.count(12), 100 + 2 * 107 + 8);
    }

    private static void noHeatIsLost() {
        sentence("9: HEAT of all SEATS, 10: OUT, 11: MELTED, 12: given");
        DeafSpot x = CHECK.with("hall 3 2;guest 0 0 99 0;guest 1 1 44 0;warm 2 1 9999;warm 1 0 777;fan 0 0 1 13;fan 2 1 2 99;snow 1 0 7;snow 2 0 9", "go heat");
        for (int i = 0; i < 60; i++) {
            due("tick", x.tick(0, i % 7 + 1) > 0, true);
            due("all that was told and given is there, out or melted", x.count(16) + x.count(12), x.count(9) + x.count(10) + x.count(11));
        }
    }
}
