import java.math.BigInteger;

/** The bounds of all that looks ahead: minutes, guests, parts asked for, what is none and what is refused. */
public final class AheadBoundsTest {
    private static final Check CHECK = new Check();
    private static final int LEAST = Integer.MIN_VALUE;
    private static final int MOST = Integer.MAX_VALUE;
    private static final int[] WILD = {LEAST, LEAST + 1, -65536, -2, -1, 4096, 65536, MOST - 1, MOST};
    /** To and fro through all rows: behind n minutes the spot is on the n-th seat, so that each minute tells. */
    private static final String SNAKE = "go 2 if way=2 and y%2=0 or way=4 and y%2=1;go 1 if way=3";

    public static void main(String[] args) {
        nothingChanges();
        there();
        thereNone();
        deaf();
        deafAway();
        deafNone();
        critic();
        criticLeast();
        criticNoGuests();
        criticNone();
        seated();
        seatedFirst();
        seatedNotAsked();
        seatedAway();
        seatedNone();
        changed();
        changedFirst();
        changedNobody();
        changedNone();
        without();
        withoutNone();
        baron();
        baronLeast();
        baronNobody();
        baronNone();
        led();
        ledNone();
        fannedMinutes();
        fannedStrength();
        fannedOrder();
        fannedSeventh();
        fannedNone();
        spanMinutes();
        spanWidth();
        spanFromZero();
        spanToTheMost();
        spanParts();
        spanNone();
        spyMinutes();
        spyNoMinute();
        spyNear();
        spyDeaf();
        spyFirst();
        spyFreeSeat();
        spySets();
        spyNone();
        drawGoesRound();
        evenings();
        eveningsTimes();
        eveningsMinutes();
        eveningsAway();
        eveningsDrawIsAsItWas();
        eveningsNone();
        CHECK.finish();
    }

    private static void sentence(String words) {
        CHECK.sentence(words);
    }

    private static void due(String call, long got, long want) {
        CHECK.due(call, got, want);
    }

    private static void due(String call, boolean got, boolean want) {
        CHECK.due(call, got, want);
    }

    /** Two minutes gone, guest 2 of 0 to 3 away, laws 0 and 1, x 9. */
    private static DeafSpot evening() {
        DeafSpot x = CHECK.with("hall 3 2;guest 0 0 16 1;guest 2 0 5 2;guest 1 1 7 3;guest 2 1 9 3;fan 0 0 1 3;snow 1 1 1;warm 1 0 40;spot 1 1",
            "go heat", "go back*9+x");
        due("goes", x.goes(2), true);
        due("tick", x.tick(0, 2), 2);
        due("seed", x.seed(9), 0);
        return x;
    }

    private static void none(String call, Check.Call asked) {
        CHECK.still(call, evening(), asked, -1);
    }

    interface Many {
        int of(DeafSpot x, int n);
    }

    /** Numbers that are refused: one below the least, one above the most, and far ones. */
    private static void bounds(String name, int least, int most, Many call) {
        due(name + " " + least + " is none", call.of(evening(), least) == -1, false);
        due(name + " " + most + " is none", call.of(evening(), most) == -1, false);
        none(name + " " + (least - 1), x -> call.of(x, least - 1));
        none(name + " " + (most + 1), x -> call.of(x, most + 1));
        for (int n : WILD) {
            none(name + " " + n, x -> call.of(x, n));
        }
    }

    /** Guests 0, 1 and 3 are there, 2 is away. */
    private static void here(String name, Many call) {
        bounds(name, 0, 3, call);
        none(name + " 2, who is away", x -> call.of(x, 2));
    }

    private static int snakeX(int n) {
        return n / 10 % 2 == 0 ? n % 10 : 9 - n % 10;
    }

    private static int snakeY(int n) {
        return n / 10;
    }

    private static String at(int n) {
        return " " + snakeX(n) + " " + snakeY(n) + " ";
    }

    private static void nothingChanges() {
        sentence("(Nothing changes by what follows.)");
        Check.Call[] calls = {x -> x.there(0, 60, 0), x -> x.deaf(1, 60, 0), x -> x.critic(0, 60, 1), x -> x.seated(0, 30, 0, 0),
            x -> x.seated(1, 30, 1, 2), x -> x.changed(0, 30, 0), x -> x.changed(1, 30, 3), x -> x.without(0, 60, 1), x -> x.baron(1, 60, 0),
            x -> x.led(0, 60), x -> x.fanned(0, 10, 2, 1, 0), x -> x.fanned(1, 10, 0, 0, 3), x -> x.span(0, 60, 0, 20, 4),
            x -> x.spy(0, 30, 1, 2, 0), x -> x.spy(1, 30, 0, 0, 1), x -> x.evenings(0, 10, 30, 0, 1), x -> x.evenings(1, 10, 30, 2, 2)};
        for (int i = 0; i < calls.length; i++) {
            DeafSpot x = evening();
            int answer = calls[i].of(x);
            CHECK.still("call " + i, x, calls[i], answer);
            // and it goes on as one of whom nothing was asked
            DeafSpot other = evening();
            due("tick", x.tick(1, 3), other.tick(1, 3));
            due("goes on as ever behind call " + i, Whole.of(x).equals(Whole.of(other)), true);
        }
    }

    private static void there() {
        sentence("THERE: the SPOT behind n MINUTES (0 to 60) by a LAW.");
        DeafSpot x = CHECK.with("hall 10 8", SNAKE, "go 0");
        for (int n : new int[] {0, 1, 9, 10, 11, 59, 60}) {
            due("x behind " + n, x.there(0, n, 0), snakeX(n));
            due("y behind " + n, x.there(0, n, 1), snakeY(n));
        }
        due("61", x.there(0, 61, 0), -1);
        due("-1", x.there(0, -1, 0), -1);
        due("tick", x.tick(0, 10), 10);
        due("from now on", x.there(0, 60, 1), 7);
        due("0 is now", x.there(0, 0, 0), 9);
        due("by the other law", x.there(1, 60, 1), 1);
    }

    private static void thereNone() {
        sentence("THERE what 0: x, 1: y; NONE without these.");
        bounds("law", 0, 1, (x, n) -> x.there(n, 1, 0));
        bounds("n", 0, 60, (x, n) -> x.there(0, n, 0));
        bounds("what", 0, 1, (x, n) -> x.there(0, 1, n));
    }

    private static void deaf() {
        sentence("DEAF ahead: in how many of these a GUEST is DEAF");
        DeafSpot x = CHECK.with("hall 10 8;guest" + at(0) + "0 0;guest" + at(1) + "0 0;guest" + at(60) + "0 0;guest" + at(61) + "0 0", SNAKE, "go 0");
        for (int n : new int[] {0, 1, 59, 60}) {
            due("where it is now, " + n, x.deaf(0, n, 0), 0);
            due("in the first one, " + n, x.deaf(0, n, 1), n >= 1 ? 1 : 0);
            due("in the last one, " + n, x.deaf(0, n, 2), n >= 60 ? 1 : 0);
            due("behind the last one, " + n, x.deaf(0, n, 3), 0);
            due("in all, " + n, x.deaf(1, n, 0), n);
        }
        due("tick", x.tick(1, 7), 7);
        due("those ahead alone", x.deaf(1, 5, 0), 5);
        due("those that were", x.guest(0, 4), 7);
    }

    private static void deafAway() {
        sentence("away: he gives nothing, sits nowhere");
        DeafSpot x = CHECK.with("hall 1 1;guest 0 0 9 9", "go 0");
        due("there", x.deaf(0, 60, 0), 60);
        due("goes", x.goes(0), true);
        due("away", x.deaf(0, 60, 0), 0);
        due("a guest all the same", x.critic(0, 60, 0), 0);
    }

    private static void deafNone() {
        sentence("DEAF ahead of a GUEST; NONE without these.");
        bounds("law", 0, 1, (x, n) -> x.deaf(n, 1, 0));
        bounds("n", 0, 60, (x, n) -> x.deaf(0, n, 0));
        bounds("guest", 0, 3, (x, n) -> x.deaf(0, 1, n));
        due("no guests", CHECK.with("hall 1 1", "go 0").deaf(0, 1, 0), -1);
    }

    private static void critic() {
        sentence("the CRITIC: who is most often, of several the least.");
        DeafSpot x = CHECK.with("hall 10 8;guest 9 7 0 0;guest" + at(60) + "0 0", SNAKE);
        due("59: nobody ever, so the least", x.critic(0, 59, 0), 0);
        due("59: how often", x.critic(0, 59, 1), 0);
        due("60: who", x.critic(0, 60, 0), 1);
        due("60: how often", x.critic(0, 60, 1), 1);
        due("61", x.critic(0, 61, 0), -1);
        due("0", x.critic(0, 0, 0), 0);
        due("0", x.critic(0, 0, 1), 0);
    }

    private static void criticLeast() {
        sentence("of several the least");
        // 1 and 2 have a minute each, then 2 has more
        DeafSpot x = CHECK.with("hall 4 1;guest 0 0 0 0;guest 2 0 0 0;guest 3 0 0 0;guest 1 0 0 0", "go x");
        due("1: the one of the first minute", x.critic(0, 1, 0), 3);
        due("2: of two the least", x.critic(0, 2, 0), 1);
        due("3: of three the least", x.critic(0, 3, 0), 1);
        due("4: one more often", x.critic(0, 4, 0), 2);
        due("4: how often", x.critic(0, 4, 1), 2);
        // the last of twelve
        StringBuilder text = new StringBuilder("hall 10 2;spot 1 1");
        for (int i = 0; i < 12; i++) {
            text.append(";guest ").append(i % 10).append(' ').append(i / 10).append(" 0 0");
        }
        due("guest 11", CHECK.with(text.toString(), "go 0").critic(0, 60, 0), 11);
    }

    private static void criticNoGuests() {
        sentence("1: how often; -2: there are no GUESTS");
        DeafSpot x = CHECK.with("hall 1 1", "go 0");
        due("who", x.critic(0, 1, 0), -2);
        due("how often", x.critic(0, 1, 1), -2);
        due("n 0", x.critic(0, 0, 0), -2);
        due("n 60", x.critic(0, 60, 0), -2);
        due("n 61 is none all the same", x.critic(0, 61, 0), -1);
        due("law 1 is none all the same", x.critic(1, 1, 0), -1);
        due("what 2 is none all the same", x.critic(0, 1, 2), -1);
        due("one guest", CHECK.with("hall 1 1;guest 0 0 0 0", "go 0").critic(0, 1, 0), 0);
    }

    private static void criticNone() {
        sentence("CRITIC what 0: who, 1: how often; -2: there are no GUESTS; NONE without these.");
        bounds("law", 0, 1, (x, n) -> x.critic(n, 1, 0));
        bounds("n", 0, 60, (x, n) -> x.critic(0, n, 0));
        bounds("what", 0, 1, (x, n) -> x.critic(0, 1, n));
    }

    private static void seated() {
        sentence("SEATED: one GUEST (not away) to one free SEAT, so that the SPOT is THERE on the SEAT that a told GUEST has then (n to 30)");
        DeafSpot x = CHECK.with("hall 10 8;guest 0 7 0 0;guest 1 7 0 0", SNAKE);
        for (int n : new int[] {0, 1, 29, 30}) {
            due("who, " + n, x.seated(0, n, 1, 0), 1);
            due("x, " + n, x.seated(0, n, 1, 1), snakeX(n));
            due("y, " + n, x.seated(0, n, 1, 2), snakeY(n));
        }
        due("31", x.seated(0, 31, 1, 0), -1);
        due("-1", x.seated(0, -1, 1, 0), -1);
    }

    private static void seatedFirst() {
        sentence("the first (the least GUEST, then SEATS by rows from above, from the left)");
        // guest 2 is always on the spot; guest 0 may go anywhere
        DeafSpot x = CHECK.with("hall 3 3;guest 0 0 0 0;guest 1 0 0 0;guest 2 2 0 0;spot 2 2", "go 0");
        due("the least guest", x.seated(0, 1, 2, 0), 0);
        due("the first free seat", x.seated(0, 1, 2, 1), 2);
        due("the first free row", x.seated(0, 1, 2, 2), 0);
        due("goes", x.goes(0), true);
        due("the least who is not away", x.seated(0, 1, 2, 0), 1);
        due("the seat that has become free", x.seated(0, 1, 2, 1), 0);
        due("its row", x.seated(0, 1, 2, 2), 0);
        // a row's first seat comes behind all of the row above
        x = CHECK.with("hall 2 2;guest 0 0 0 0;guest 1 1 0 0;spot 1 1", "go 0");
        due("row 0, at its end", x.seated(0, 1, 1, 1), 1);
        due("row 0, at its end", x.seated(0, 1, 1, 2), 0);
        // the last guest to the last seat
        x = CHECK.with("hall 10 8;guest 0 0 0 0;guest 1 0 0 0;spot 9 7", "go 0");
        due("who", x.seated(0, 30, 1, 0), 1);
        due("x", x.seated(0, 30, 1, 1), 9);
        due("y", x.seated(0, 30, 1, 2), 7);
    }

    private static void seatedNotAsked() {
        sentence("-2: there is none (it is not asked whether it is so as it is)");
        DeafSpot x = CHECK.with("hall 1 1;guest 0 0 0 0", "go 0");
        due("no free seat, though it is on him", x.seated(0, 0, 0, 0), -2);
        due("no free seat, though it is on him", x.seated(0, 30, 0, 2), -2);
        x = CHECK.with("hall 2 1;guest 0 0 0 0", "go 0");
        due("any other seat is off it", x.seated(0, 1, 0, 0), -2);
        due("x", x.seated(0, 1, 0, 1), -2);
        due("y", x.seated(0, 1, 0, 2), -2);
        due("n 31 is none all the same", x.seated(0, 31, 0, 0), -1);
        due("what 3 is none all the same", x.seated(0, 1, 0, 3), -1);
        x = CHECK.with("hall 2 1;guest 1 0 0 0", "go 0");
        due("there is one", x.seated(0, 1, 0, 0), 0);
    }

    private static void seatedAway() {
        sentence("SEATED: one GUEST (not away) to one free SEAT");
        DeafSpot x = CHECK.with("hall 3 1;guest 2 0 0 0;guest 1 0 0 0;guest 0 0 0 0", "go 9 if guests=1 and x=0;go x");
        due("goes", x.goes(0), true);
        // 0 is away: he is not sent, though the spot would be on guest 2 with him at 2 0
        due("who", x.seated(0, 1, 2, 0), 1);
        due("x", x.seated(0, 1, 2, 1), 2);
    }

    private static void seatedNone() {
        sentence("NONE without these (a told GUEST who is not away).");
        bounds("law", 0, 1, (x, n) -> x.seated(n, 1, 0, 0));
        bounds("n", 0, 30, (x, n) -> x.seated(0, n, 0, 0));
        here("on", (x, n) -> x.seated(0, 1, n, 0));
        bounds("what", 0, 2, (x, n) -> x.seated(0, 1, 0, n));
        due("no guests", CHECK.with("hall 1 1", "go 0").seated(0, 1, 0, 0), -1);
    }

    private static void changed() {
        sentence("CHANGED: two GUESTS (neither away) who change SEATS, so that it is");
        for (int n : new int[] {0, 1, 29, 30}) {
            DeafSpot x = CHECK.with("hall 10 8;guest 9 7 0 0;guest" + at(n) + "0 0", SNAKE);
            due("behind " + n, x.changed(0, n, 0), 1);
            due("off him", x.changed(0, n, 1), -2);
            due("31", x.changed(0, 31, 0), -1);
            due("-1", x.changed(0, -1, 0), -1);
        }
        DeafSpot x = CHECK.with("hall 10 8;guest 9 7 0 0;guest" + at(30) + "0 0", SNAKE);
        due("a minute less", x.changed(0, 29, 0), -2);
    }

    private static void changedFirst() {
        sentence("the first (the lesser, then the other one)");
        DeafSpot x = CHECK.with("hall 4 1;guest 0 0 0 0;guest 1 0 0 0;guest 2 0 0 0;guest 3 0 0 0", "go 0", "go x");
        due("others change, and he stays on it", x.changed(0, 1, 0), 16 * 1 + 2);
        due("he goes on it", x.changed(0, 1, 3), 3);
        due("first of those without him", x.changed(1, 3, 3), 1);
        due("to the end", x.changed(1, 3, 0), 3);
        due("to the end", x.changed(1, 3, 2), 16 * 2 + 3);
        due("goes", x.goes(1), true);
        due("neither away", x.changed(0, 1, 0), 16 * 2 + 3);
        // the last two of twelve
        StringBuilder text = new StringBuilder("hall 10 2;spot 0 1");
        for (int i = 0; i < 12; i++) {
            text.append(";guest ").append(i % 10).append(' ').append(i / 10).append(" 0 0");
        }
        due("10 and 11", CHECK.with(text.toString(), "go 0").changed(0, 30, 11), 16 * 10 + 11);
    }

    private static void changedNobody() {
        sentence("CHANGED: 16 * the lesser + the other one; -2: there are none");
        due("alone", CHECK.with("hall 1 1;guest 0 0 0 0", "go 0").changed(0, 1, 0), -2);
        DeafSpot x = CHECK.with("hall 2 1;guest 0 0 0 0;guest 1 0 0 0", "go 0");
        due("two", x.changed(0, 1, 1), 1);
        due("goes", x.goes(0), true);
        due("alone", x.changed(0, 1, 1), -2);
        due("n 31 is none all the same", x.changed(0, 31, 1), -1);
    }

    private static void changedNone() {
        sentence("-2: there are none; NONE without these (likewise).");
        bounds("law", 0, 1, (x, n) -> x.changed(n, 1, 0));
        bounds("n", 0, 30, (x, n) -> x.changed(0, n, 0));
        here("on", (x, n) -> x.changed(0, 1, n));
    }

    /** The snake, but in the 60th minute the spot goes to a guest who is near. */
    private static DeafSpot atTheEnd(int who) {
        StringBuilder text = new StringBuilder("hall 10 8");
        for (int i = 0; i < 3; i++) {
            text.append(";guest ").append(i == who ? "1 5" : 4 + i + " 7").append(" 0 0");
        }
        return CHECK.with(text.toString(), "go 9 if guests=1 and minute=59;" + SNAKE);
    }

    private static void without() {
        sentence("WITHOUT a GUEST: how far (steps by WAYS) the SPOT is THERE from where it would be with him");
        DeafSpot x = atTheEnd(1);
        due("behind 60", x.without(0, 60, 1), 2);
        due("behind 59", x.without(0, 59, 1), 0);
        due("behind 0", x.without(0, 0, 1), 0);
        due("another", x.without(0, 60, 0), 0);
        due("61", x.without(0, 61, 1), -1);
        due("-1", x.without(0, -1, 1), -1);
        // with him it is drawn out of the corner, and goes on to the other end of the hall: 9 columns and 7 rows
        x = CHECK.with("hall 10 8;guest 1 0 0 0", "go 9 if guests=1 and minute=0;go x+y if x>1");
        due("from corner to corner", x.without(0, 60, 0), 16);
        due("the farthest of all", x.baron(0, 60, 1), 16);
    }

    private static void withoutNone() {
        sentence("WITHOUT; NONE without these (one who is away, too).");
        bounds("law", 0, 1, (x, n) -> x.without(n, 1, 0));
        bounds("n", 0, 60, (x, n) -> x.without(0, n, 0));
        here("guest", (x, n) -> x.without(0, 1, n));
    }

    private static void baron() {
        sentence("BARON: without whom it is farthest");
        for (int who = 0; who < 3; who++) {
            DeafSpot x = atTheEnd(who);
            due("who", x.baron(0, 60, 0), who);
            due("how far", x.baron(0, 60, 1), 2);
            due("59: nobody, so the least", x.baron(0, 59, 0), 0);
            due("59: how far", x.baron(0, 59, 1), 0);
            due("61", x.baron(0, 61, 0), -1);
            due("-1", x.baron(0, -1, 0), -1);
        }
    }

    private static void baronLeast() {
        sentence("BARON: without whom it is farthest, of several the least.");
        // both are needed: without each of them the spot stays
        DeafSpot x = CHECK.with("hall 3 3;guest 0 2 0 0;guest 2 0 4 0;guest 0 0 4 0;spot 1 1", "go 9 if y=0 and near=8");
        due("it goes up", x.there(0, 1, 1), 0);
        due("without 0", x.without(0, 1, 0), 0);
        due("without 1", x.without(0, 1, 1), 1);
        due("without 2", x.without(0, 1, 2), 1);
        due("who", x.baron(0, 1, 0), 1);
        due("led", x.led(0, 1), 6);
        due("goes", x.goes(0), true);
        due("one away is no baron", x.baron(0, 0, 0), 1);
    }

    private static void baronNobody() {
        sentence("BARON what 0: who, 1: how far; -2: nobody is there");
        DeafSpot x = CHECK.with("hall 1 1", "go 0");
        due("no guests", x.baron(0, 1, 0), -2);
        due("no guests", x.baron(0, 1, 1), -2);
        x = CHECK.with("hall 2 1;guest 0 0 0 0;guest 1 0 0 0", "go 0");
        due("goes", x.goes(0), true);
        due("one is there", x.baron(0, 1, 0), 1);
        due("goes", x.goes(1), true);
        due("nobody is there", x.baron(0, 1, 0), -2);
        due("nobody is there", x.baron(0, 0, 1), -2);
        due("n 61 is none all the same", x.baron(0, 61, 0), -1);
        due("what 2 is none all the same", x.baron(0, 1, 2), -1);
    }

    private static void baronNone() {
        sentence("1: how far; -2: nobody is there; NONE without these.");
        bounds("law", 0, 1, (x, n) -> x.baron(n, 1, 0));
        bounds("n", 0, 60, (x, n) -> x.baron(0, n, 0));
        bounds("what", 0, 1, (x, n) -> x.baron(0, 1, n));
    }

    private static void led() {
        sentence("LED: GUESTS (as bits) without each of whom the SPOT would not be THERE.");
        for (int who = 0; who < 3; who++) {
            DeafSpot x = atTheEnd(who);
            due("behind 60", x.led(0, 60), 1 << who);
            due("behind 59", x.led(0, 59), 0);
            due("behind 0", x.led(0, 0), 0);
            due("61", x.led(0, 61), -1);
            due("-1", x.led(0, -1), -1);
        }
        // the last of twelve: the spot is on him, and goes up without him
        StringBuilder text = new StringBuilder("hall 10 2;spot 5 1");
        for (int i = 0; i < 12; i++) {
            text.append(";guest ").append(i % 6).append(' ').append(i / 6).append(" 99 0");
        }
        DeafSpot x = CHECK.with(text.toString(), "go 0", "go guests");
        due("by nobody", x.led(0, 1), 0);
        due("by the last", x.led(1, 1), 1 << 11);
        due("no guests", CHECK.with("hall 1 1", "go 0").led(0, 1), 0);
    }

    private static void ledNone() {
        sentence("LED; NONE without these.");
        bounds("law", 0, 1, (x, n) -> x.led(n, 1));
        bounds("n", 0, 60, (x, n) -> x.led(0, n));
    }

    private static void fannedMinutes() {
        sentence("so that the SPOT is THERE on a told SEAT (n to 10)");
        DeafSpot x = CHECK.with("hall 10 8", SNAKE);
        for (int n : new int[] {0, 1, 9, 10}) {
            due("where it is behind " + n, x.fanned(0, n, snakeX(n), snakeY(n), 0), 1);
            due("where it is a minute later", x.fanned(0, n, snakeX(n + 1), snakeY(n + 1), 0), -2);
        }
        due("11", x.fanned(0, 11, snakeX(11), snakeY(11), 0), -1);
        due("-1", x.fanned(0, -1, 0, 0, 0), -1);
    }

    private static void fannedStrength() {
        sentence("of the least STRENGTH (1 to 9)");
        for (int heat = 1; heat <= 10; heat++) {
            // all of it must go out: that needs a fan as strong
            DeafSpot x = CHECK.with("hall 2 1;warm 1 0 " + heat, "go 1 if heat=0 and near=0 and x=1");
            due("of heat " + heat, x.fanned(0, 1, 1, 0, 0), heat <= 9 ? heat : -2);
            due("x", x.fanned(0, 1, 1, 0, 1), heat <= 9 ? 1 : -2);
            due("way", x.fanned(0, 1, 1, 0, 3), heat <= 9 ? 1 : -2);
        }
        due("not 0: there is a fan, where it is so as it is", CHECK.with("hall 1 1", "go 0").fanned(0, 0, 0, 0, 0), 1);
    }

    private static void fannedOrder() {
        sentence("of the least STRENGTH (1 to 9), then by SEATS, then by WAY");
        DeafSpot x = CHECK.with("hall 10 8;spot 9 7", "go 0");
        int[] first = {1, 0, 0, 1};
        for (int what = 0; what <= 3; what++) {
            due("any fan will do, what " + what, x.fanned(0, 1, 9, 7, what), first[what]);
        }
        // heat of 1 0 or of 0 1 may go out: the upper row comes first
        x = CHECK.with("hall 2 2;warm 1 0 5;warm 0 1 5", "go 0-1 if way=0 and near=9");
        int[] upper = {1, 1, 0, 1};
        for (int what = 0; what <= 3; what++) {
            due("by rows, what " + what, x.fanned(0, 1, 1, 0, what), upper[what]);
        }
        // to the last seat, by the last way
        x = CHECK.with("hall 2 2;warm 1 1 5", "go 1 if heat=3 and y=1");
        due("strength", x.fanned(0, 1, 0, 1, 0), 3);
        due("x", x.fanned(0, 1, 0, 1, 1), 1);
        due("y", x.fanned(0, 1, 0, 1, 2), 1);
        due("way", x.fanned(0, 1, 0, 1, 3), 4);
        // out by way 2 or 3, and up by way 1: of these the first
        x = CHECK.with("hall 2 2;warm 1 1 5;spot 0 1", "go 1 if heat=4 and x=1");
        due("strength", x.fanned(0, 1, 1, 1, 0), 1);
        due("x", x.fanned(0, 1, 1, 1, 1), 1);
        due("y", x.fanned(0, 1, 1, 1, 2), 1);
        due("way", x.fanned(0, 1, 1, 1, 3), 1);
    }

    private static void fannedSeventh() {
        sentence("FAN: one FAN more (behind all others, also if there are six)");
        // what the others have brought to 1 0 is what it has
        String brought = "hall 3 1;spot 2 0;warm 0 0 6" + ";fan 0 0 2 1".repeat(6);
        DeafSpot x = CHECK.with(brought, "go heat");
        CHECK.still("strength", x, s -> s.fanned(0, 1, 2, 0, 0), 3);
        due("x", x.fanned(0, 1, 2, 0, 1), 1);
        due("way", x.fanned(0, 1, 2, 0, 3), 2);
        due("still six", x.count(3), 6);
        due("no seventh", x.fan(6, 0), -1);
        due("a seventh in a hall is refused all the same", Check.hall(x, brought + ";fan 0 0 1 1"), Check.fault(brought.length() + 1, 4));
        due("with none", CHECK.with("hall 1 1", "go 0").fanned(0, 10, 0, 0, 0), 1);
    }

    private static void fannedNone() {
        sentence("FAN what 0: STRENGTH, 1: x, 2: y, 3: WAY; -2: there is none; NONE without these (x, y of a SEAT).");
        bounds("law", 0, 1, (x, n) -> x.fanned(n, 1, 0, 0, 0));
        bounds("n", 0, 10, (x, n) -> x.fanned(0, n, 0, 0, 0));
        bounds("x", 0, 2, (x, n) -> x.fanned(0, 1, n, 0, 0));
        bounds("y", 0, 1, (x, n) -> x.fanned(0, 1, 0, n, 0));
        bounds("what", 0, 3, (x, n) -> x.fanned(0, 1, 0, 0, n));
        DeafSpot x = CHECK.with("hall 10 8", "go 0");
        for (int what = 0; what <= 3; what++) {
            due("none, what " + what, x.fanned(0, 10, 9, 7, what), -2);
        }
        due("none, but what 4", x.fanned(0, 10, 9, 7, 4), -1);
        due("none, but n 11", x.fanned(0, 11, 9, 7, 0), -1);
    }

    private static void spanMinutes() {
        sentence("of all that the SPOT could be THERE on");
        DeafSpot x = CHECK.with("hall 10 8;guest 9 7 0 0", SNAKE);
        for (int n : new int[] {0, 1, 59, 60}) {
            due("least x behind " + n, x.span(0, n, 0, 20, 0), snakeX(n));
            due("greatest x behind " + n, x.span(0, n, 0, 20, 1), snakeX(n));
            due("least y behind " + n, x.span(0, n, 0, 20, 2), snakeY(n));
            due("greatest y behind " + n, x.span(0, n, 0, 20, 3), snakeY(n));
            due("seats behind " + n, x.span(0, n, 0, 20, 4), 1);
        }
        due("61", x.span(0, 61, 0, 20, 0), -1);
        due("-1", x.span(0, -1, 0, 20, 0), -1);
    }

    /** The spot goes to the right if the guest there, who has nobody to give his heat to but 0 0, is as warm as told. */
    private static void widths(int warm, int told, int d, int seats) {
        DeafSpot x = CHECK.with("hall 2 1;guest 1 0 " + warm + " 0", "go 1 if x=1 and heat+near=" + told);
        due("warm " + warm + ", d " + d + ", asked for " + told, x.span(0, 1, 0, d, 4), seats);
        due("his warmth is as it was", x.guest(0, 2), warm);
    }

    private static void spanWidth() {
        sentence("SPAN: if the WARM of one GUEST were from d less (0 at least) to d more (99 at most; d 0 to 20)");
        // asked for what is just within and just beyond; with d 0 there is one warmth alone
        widths(50, 50, 0, 1);
        widths(50, 51, 0, 1);
        widths(50, 49, 1, 2);
        widths(50, 51, 1, 2);
        widths(50, 48, 1, 1);
        widths(50, 52, 1, 1);
        widths(50, 30, 20, 2);
        widths(50, 29, 20, 1);
        widths(50, 70, 20, 2);
        widths(50, 71, 20, 1);
        DeafSpot x = CHECK.with("hall 2 1;guest 1 0 50 0", "go 0");
        due("d 20", x.span(0, 1, 0, 20, 4), 1);
        due("d 21", x.span(0, 1, 0, 21, 4), -1);
        due("d 0", x.span(0, 1, 0, 0, 4), 1);
        due("d -1", x.span(0, 1, 0, -1, 4), -1);
    }

    private static void spanFromZero() {
        sentence("from d less (0 at least)");
        widths(20, 0, 20, 2);
        widths(19, 0, 20, 2);
        widths(21, 0, 20, 1);
        widths(0, 0, 20, 2);
        widths(0, 20, 20, 2);
        widths(0, 21, 20, 1);
        // no warmth below 0 is tried, by which heat would be taken
        DeafSpot x = CHECK.with("hall 2 1;guest 1 0 5 0;warm 1 0 7", "go 1 if x=1 and heat+near<7");
        due("never below what was there", x.span(0, 1, 0, 20, 4), 1);
    }

    private static void spanToTheMost() {
        sentence("to d more (99 at most");
        widths(79, 99, 20, 2);
        widths(80, 99, 20, 2);
        widths(78, 99, 20, 1);
        widths(80, 100, 20, 1);
        widths(99, 99, 20, 2);
        widths(99, 100, 20, 1);
        widths(99, 79, 20, 2);
        widths(99, 78, 20, 1);
    }

    private static void spanParts() {
        sentence("the least and greatest x, y of all that the SPOT could be THERE on; how many unlike SEATS that are");
        // warmth 1 to 4 of him who sits under the spot is the way it goes; with any other it stays
        String law = "go 9 if way>0 and near=way";
        int[][] warmAndWidth = {{2, 0}, {2, 1}, {2, 2}, {4, 1}, {6, 1}, {2, 5}};
        int[][] want = {{2, 2, 1, 1, 1}, {1, 2, 0, 2, 3}, {0, 2, 0, 2, 5}, {0, 1, 1, 2, 3}, {1, 1, 1, 1, 1}, {0, 2, 0, 2, 5}};
        for (int i = 0; i < want.length; i++) {
            DeafSpot x = CHECK.with("hall 3 3;guest 1 1 " + warmAndWidth[i][0] + " 0;spot 1 1", law);
            for (int what = 0; what <= 4; what++) {
                due("warm " + warmAndWidth[i][0] + ", d " + warmAndWidth[i][1] + ", what " + what, x.span(0, 1, 0, warmAndWidth[i][1], what), want[i][what]);
            }
        }
    }

    private static void spanNone() {
        sentence("SPAN what 0, 1: the least, the greatest x, 2, 3: y, 4: how many SEATS. NONE without these (one who is not away).");
        bounds("law", 0, 1, (x, n) -> x.span(n, 1, 0, 1, 0));
        bounds("n", 0, 60, (x, n) -> x.span(0, n, 0, 1, 0));
        here("guest", (x, n) -> x.span(0, 1, n, 1, 0));
        bounds("d", 0, 20, (x, n) -> x.span(0, 1, 0, n, 0));
        bounds("what", 0, 4, (x, n) -> x.span(0, 1, 0, 1, n));
    }

    private static void spyMinutes() {
        sentence("SPY: a phrase sung behind a MINUTE (1 to n; n 0 to 30");
        // guest 0 is deaf up to the minute in which the spot leaves him
        for (int leaves : new int[] {1, 2, 29, 30, 31}) {
            DeafSpot x = CHECK.with("hall 3 1;guest 0 0 0 0", "go x if minute=" + (leaves - 1) + ";go 0-x");
            due("heard in the minute it leaves", x.spy(0, 30, 1, 0, 0), leaves <= 30 ? leaves : -2);
            due("a minute less", x.spy(0, Math.min(30, leaves) - 1, 1, 0, 0), -2);
        }
        DeafSpot x = CHECK.with("hall 3 1;guest 0 0 0 0", "go 0");
        due("31", x.spy(0, 31, 0, 0, 0), -1);
        due("-1", x.spy(0, -1, 0, 0, 0), -1);
        due("from now on, whatever the minute is", x.tick(0, 100), 100);
        due("1", x.spy(0, 30, 0, 1, 0), 1);
    }

    private static void spyNoMinute() {
        sentence("n 0 to 30, with 0 there is none");
        DeafSpot x = CHECK.with("hall 3 1;guest 0 0 0 0", "go x");
        due("0", x.spy(0, 0, 0, 0, 0), -2);
        due("0, x", x.spy(0, 0, 0, 0, 1), -2);
        due("0, y", x.spy(0, 0, 1, 0, 2), -2);
        due("1", x.spy(0, 1, 0, 0, 0), 1);
        due("0, but what 3", x.spy(0, 0, 0, 0, 3), -1);
        due("0, but in both", x.spy(0, 0, 1, 1, 0), -1);
    }

    private static void spyNear() {
        sentence("is heard by GUESTS who sit 2 columns and 2 rows from there at most");
        // of all seats those within two of 5 4 hear him sing; the first is two to the left and two up
        DeafSpot x = CHECK.with("hall 10 8;guest 5 4 0 0", "go 0");
        due("x", x.spy(0, 1, 1, 0, 1), 3);
        due("y", x.spy(0, 1, 1, 0, 2), 2);
        x = CHECK.with("hall 4 1;guest 3 0 0 0", "go 0");
        due("two columns", x.spy(0, 1, 1, 0, 1), 1);
        due("not three", x.spy(0, 1, 0, 1, 1), 0);
        x = CHECK.with("hall 4 1;guest 0 0 0 0;spot 1 0", "go 0");
        due("three to the right: not", x.spy(0, 1, 0, 1, 1), 3);
        x = CHECK.with("hall 1 4;guest 0 0 0 0;spot 0 1", "go 0");
        due("three down: not", x.spy(0, 1, 0, 1, 2), 3);
        x = CHECK.with("hall 1 4;guest 0 3 0 0", "go 0");
        due("two rows", x.spy(0, 1, 1, 0, 2), 1);
        due("not three", x.spy(0, 1, 0, 1, 2), 0);
        x = CHECK.with("hall 4 4;guest 3 3 0 0;spot 3 2", "go 0");
        due("two columns and two rows", x.spy(0, 1, 1, 0, 1), 1);
        due("two columns and two rows", x.spy(0, 1, 1, 0, 2), 1);
        // two columns, three rows
        x = CHECK.with("hall 3 4;guest 2 3 0 0;guest 0 1 0 0;guest 1 1 0 0;guest 2 1 0 0;guest 0 2 0 0;guest 1 2 0 0;guest 2 2 0 0;guest 0 3 0 0;guest 1 3 0 0", "go 0");
        due("row 0 is three rows off", x.spy(0, 30, 1, 0, 0), -2);
    }

    private static void spyDeaf() {
        sentence("and are not DEAF then");
        DeafSpot x = CHECK.with("hall 3 1;guest 0 0 0 0;guest 1 0 0 0", "go 0");
        due("0 is deaf", x.spy(0, 30, 1, 0, 0), -2);
        due("1 hears", x.spy(0, 30, 2, 1, 0), 1);
        due("1 hears at 2 0", x.spy(0, 30, 2, 1, 1), 2);
        due("both never", x.spy(0, 30, 3, 0, 0), -2);
        due("neither never", x.spy(0, 30, 0, 3, 0), -2);
    }

    private static void spyFirst() {
        sentence("the first MINUTE, then SEAT by which told GUESTS hear it, and other told ones do not");
        DeafSpot x = CHECK.with("hall 6 1;guest 0 0 0 0;guest 3 0 0 0;guest 5 0 0 0", "go x", "go 0");
        due("nobody told: the first free seat", x.spy(0, 30, 0, 0, 1), 1);
        due("0 without 1: as the spot is on 1", x.spy(0, 30, 1, 2, 0), 3);
        due("at 1 0", x.spy(0, 30, 1, 2, 1), 1);
        due("1 and 2 at 4 0", x.spy(1, 30, 6, 0, 1), 4);
        due("in the first minute", x.spy(1, 30, 6, 0, 0), 1);
        due("who is not told may hear or not", x.spy(1, 30, 2, 0, 1), 1);
        due("0 and 2 never", x.spy(0, 30, 5, 0, 0), -2);
        // seats by rows
        x = CHECK.with("hall 3 3;guest 0 0 0 0;guest 1 0 0 0;spot 2 2", "go 0");
        due("row 0 first", x.spy(0, 1, 3, 0, 1), 2);
        due("row 0 first", x.spy(0, 1, 3, 0, 2), 0);
        due("sits", x.sits(0, 2, 0), true);
        due("then where he was", x.spy(0, 1, 3, 0, 1), 0);
    }

    private static void spyFreeSeat() {
        sentence("on a free SEAT");
        due("no free seat", CHECK.with("hall 1 1;guest 0 0 0 0", "go 0").spy(0, 30, 0, 0, 0), -2);
        DeafSpot x = CHECK.with("hall 2 1;guest 0 0 0 0;guest 1 0 0 0", "go 0");
        due("no free seat", x.spy(0, 30, 0, 0, 0), -2);
        due("goes", x.goes(1), true);
        due("his seat is free", x.spy(0, 30, 0, 0, 1), 1);
        due("where the spot is one may sing", CHECK.with("hall 1 1", "go 0").spy(0, 1, 0, 0, 0), 1);
    }

    private static void spySets() {
        sentence("SPY (sets of GUESTS as bits, nobody in both)");
        StringBuilder text = new StringBuilder("hall 5 5;spot 4 4");
        for (int i = 0; i < 12; i++) {
            text.append(";guest ").append(i % 4).append(' ').append(i / 4).append(" 0 0");
        }
        DeafSpot x = CHECK.with(text.toString(), "go 0");
        due("nobody", x.spy(0, 1, 0, 0, 0), 1);
        due("the last alone", x.spy(0, 1, 1 << 11, 0, 0), 1);
        due("all: one sits too far from everywhere", x.spy(0, 1, 4095, 0, 0), -2);
        due("nobody of all: from a far corner", x.spy(0, 1, 0, 4095, 0), -2);
        due("a thirteenth", x.spy(0, 1, 4096, 0, 0), -1);
        due("a thirteenth", x.spy(0, 1, 0, 4096, 0), -1);
        due("in both", x.spy(0, 1, 1, 1, 0), -1);
        due("the last in both", x.spy(0, 1, 1 << 11, 4095, 0), -1);
        due("all, in two halves", x.spy(0, 1, 63, 4032, 0) != -1, true);
        due("no guests: no sets but the empty ones", CHECK.with("hall 1 1", "go 0").spy(0, 1, 1, 0, 0), -1);
    }

    private static void spyNone() {
        sentence("what 0: the MINUTE (from now on), 1: x, 2: y; -2: there is none; NONE without these.");
        bounds("law", 0, 1, (x, n) -> x.spy(n, 1, 1, 2, 0));
        bounds("n", 0, 30, (x, n) -> x.spy(0, n, 1, 2, 0));
        bounds("hear", 0, 15, (x, n) -> x.spy(0, 1, n, 0, 0));
        bounds("not", 0, 15, (x, n) -> x.spy(0, 1, 0, n, 0));
        bounds("what", 0, 2, (x, n) -> x.spy(0, 1, 0, 0, n));
        for (int guest = 0; guest < 4; guest++) {
            int bit = 1 << guest;
            none("guest " + guest + " in both", x -> x.spy(0, 1, bit, bit, 0));
        }
    }

    /** The n-th draw from a number on, reckoned with numbers that never go round. */
    private static int draw(int from, int n) {
        BigInteger x = BigInteger.valueOf(from);
        BigInteger all = BigInteger.valueOf(2147483648L);
        for (int i = 0; i < n; i++) {
            x = x.multiply(BigInteger.valueOf(1103515245)).add(BigInteger.valueOf(12345)).mod(all);
        }
        return x.divide(BigInteger.valueOf(65536)).intValueExact();
    }

    /** All that a guest gives goes out at once. */
    private static final String OPEN = "hall 1 1;guest 0 0 0 0;fan 0 0 1 99";

    private static void drawGoesRound() {
        sentence("DRAWS: x (0 to 2147483647; 0 at first) becomes x * 1103515245 + 12345, of 2147483648 the rest; a DRAW is x / 65536.");
        DeafSpot x = CHECK.with(OPEN, "go 0");
        due("0 at first", x.count(13), 0);
        // 12345 / 65536 is 0
        due("the first draw", x.evenings(0, 1, 1, 0, 2), 0);
        // 2147483647 is one less than 0 of 2147483648: 12345 - 1103515245 goes round to 1043980748, a draw of 15929
        due("seed", x.seed(MOST), 0);
        due("the draw behind the most", x.evenings(0, 1, 1, 0, 2), 29);
        for (int from : new int[] {0, 1, 2, 65535, 65536, 12345, 1103515245, MOST - 1, MOST}) {
            x.seed(from);
            due("from " + from, x.evenings(0, 1, 1, 0, 2), draw(from, 1) % 100);
            due("two from " + from, x.evenings(0, 2, 1, 0, 2), draw(from, 1) % 100 + draw(from, 2) % 100);
        }
    }

    private static void evenings() {
        sentence("each GUEST (not away, by their numbers) is first as WARM as a DRAW mod 100");
        // of two guests the first one's heat goes out, the second one's stays
        DeafSpot x = CHECK.with("hall 2 1;guest 0 0 5 0;guest 1 0 5 0;fan 0 0 1 99", "go 0");
        due("seed", x.seed(3), 0);
        due("the first draw is guest 0's", x.evenings(0, 1, 1, 0, 2), draw(3, 1) % 100);
        due("in the second evening the third is", x.evenings(0, 2, 1, 0, 2), draw(3, 1) % 100 + draw(3, 3) % 100);
        due("goes", x.goes(1), true);
        due("who is away draws none", x.evenings(0, 2, 1, 0, 2), draw(3, 1) % 100 + draw(3, 2) % 100);
        due("comes", x.sits(1, 1, 0), true);
        due("goes", x.goes(0), true);
        due("and none of his goes out", x.evenings(0, 10, 1, 0, 2), 0);
        // mod 100: no warmth is above 99
        int most = 0;
        DeafSpot open = CHECK.with(OPEN, "go 0");
        for (int i = 0; i < 200; i++) {
            open.seed(i * 1000003);
            most = Math.max(most, open.evenings(0, 1, 1, 0, 2));
        }
        due("at most", most <= 99 && most > 90, true);
    }

    private static void eveningsTimes() {
        sentence("EVENINGS m times (1 to 10) from now on");
        DeafSpot x = CHECK.with(OPEN, "go 0");
        int out = 0;
        for (int m = 1; m <= 10; m++) {
            out += draw(0, m) % 100;
            due("ends of " + m, x.evenings(0, m, 1, 0, 0), m);
            due("minutes of " + m, x.evenings(0, m, 30, 0, 1), 30 * m);
            due("out of " + m, x.evenings(0, m, 1, 0, 2), out);
            due("out of " + m + " with 30 minutes", x.evenings(0, m, 30, 0, 2), 30 * out);
        }
        due("0", x.evenings(0, 0, 1, 0, 0), -1);
        due("11", x.evenings(0, 11, 1, 0, 0), -1);
        // from now on: what was out and deaf before is not counted
        due("warms", x.warms(0, 50), 0);
        due("tick", x.tick(0, 9), 9);
        due("was out", x.count(10), 450);
        due("out", x.evenings(0, 10, 1, 0, 2), out);
        due("minutes", x.evenings(0, 10, 1, 0, 1), 10);
    }

    private static void eveningsMinutes() {
        sentence("n MINUTES (1 to 30) by a LAW");
        DeafSpot x = CHECK.with("hall 10 8;guest" + at(1) + "0 0;guest" + at(29) + "0 0;guest" + at(30) + "0 0;guest" + at(31) + "0 0", SNAKE);
        int[] when = {1, 29, 30, 31};
        for (int n : new int[] {1, 2, 28, 29, 30}) {
            for (int guest = 0; guest < 4; guest++) {
                due("at the end of " + n, x.evenings(0, 10, n, guest, 0), when[guest] == n ? 10 : 0);
                due("in all of " + n, x.evenings(0, 10, n, guest, 1), when[guest] <= n ? 10 : 0);
            }
        }
        due("0", x.evenings(0, 1, 0, 0, 0), -1);
        due("31", x.evenings(0, 1, 31, 0, 0), -1);
        due("none goes out", x.evenings(0, 10, 30, 0, 2), 0);
    }

    private static void eveningsAway() {
        sentence("in how many a told GUEST is DEAF at the end; in how many MINUTES together; HEAT that is OUT together");
        DeafSpot x = CHECK.with("hall 1 1;guest 0 0 9 0;fan 0 0 1 3;warm 0 0 10", "go 0");
        due("goes", x.goes(0), true);
        due("one away is never deaf", x.evenings(0, 10, 30, 0, 0), 0);
        due("one away is never deaf", x.evenings(0, 10, 30, 0, 1), 0);
        due("what is there goes out in each", x.evenings(0, 10, 30, 0, 2), 100);
        due("not all in three minutes", x.evenings(0, 10, 3, 0, 2), 90);
    }

    private static void eveningsDrawIsAsItWas() {
        sentence("x goes on; behind it x is as it was");
        DeafSpot x = CHECK.with(OPEN, "go 0");
        for (int from : new int[] {0, 7, MOST}) {
            x.seed(from);
            due("goes on", x.evenings(0, 3, 1, 0, 2), draw(from, 1) % 100 + draw(from, 2) % 100 + draw(from, 3) % 100);
            due("as it was", x.count(13), from);
            due("so that it is the same again", x.evenings(0, 1, 1, 0, 2), draw(from, 1) % 100);
        }
    }

    private static void eveningsNone() {
        sentence("EVENINGS what 0: at the end, 1: MINUTES, 2: OUT. NONE without these.");
        bounds("law", 0, 1, (x, n) -> x.evenings(n, 1, 1, 0, 0));
        bounds("m", 1, 10, (x, n) -> x.evenings(0, n, 1, 0, 0));
        bounds("n", 1, 30, (x, n) -> x.evenings(0, 1, n, 0, 0));
        bounds("guest", 0, 3, (x, n) -> x.evenings(0, 1, 1, n, 0));
        bounds("what", 0, 2, (x, n) -> x.evenings(0, 1, 1, 0, n));
    }
}
