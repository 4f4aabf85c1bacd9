/** The bounds of the language of laws, and of what its sums and tests are worth. */
public final class LawBoundsTest {
    private static final Check CHECK = new Check();
    private static final String[] WORDS = {"heat", "near", "guests", "x", "y", "minute", "way", "back", "edge"};
    /** 2 to the 63rd, which goes round to the least number of all. */
    private static final String LEAST = "65536*65536*65536*32768";
    private static final String MOST = "32767*65536*65536*65536+65535*65536*65536+65535*65536+65535";

    public static void main(String[] args) {
        bytesAtMost();
        lawsAtMost();
        clausesAtMost();
        ifOrNot();
        orsAndAnds();
        facts();
        signs();
        sums();
        terms();
        numbers();
        wordsOfLetters();
        heat();
        near();
        guests();
        xAndY();
        minute();
        way();
        back();
        backInTheFirst();
        edge();
        towardsZero();
        rest();
        byZero();
        goesRound();
        blanks();
        deep();
        sixty();
        wrongBytes();
        ends();
        moreDigits();
        tooDeep();
        oneTooMany();
        thirteenth();
        ofOnePlaceTheLeast();
        allStays();
        CHECK.finish();
    }

    private static void sentence(String words) {
        CHECK.sentence(words);
    }

    private static void due(String call, long got, long want) {
        CHECK.due(call, got, want);
    }

    private static void due(String call, boolean got, boolean want) {
        CHECK.due(call, got, want);
    }

    private static String times(String text, int n) {
        return text.repeat(n);
    }

    private static void good(String text) {
        DeafSpot x = new DeafSpot();
        due("law of '" + text + "'", Check.law(x, text), 0);
        due("laws behind '" + text + "'", x.count(5), 1);
        due("tape behind '" + text + "'", x.count(14), 0);
    }

    private static void bad(String text, int place, int kind) {
        DeafSpot x = new DeafSpot();
        due("law of '" + text + "'", Check.law(x, text), Check.fault(place, kind));
        due("laws behind '" + text + "'", x.count(5), 0);
        due("tape behind '" + text + "'", x.count(14), 0);
    }

    /** Whether a test holds in the first minute of the hall. */
    private static boolean isSo(String hall, String test) {
        DeafSpot x = CHECK.with(hall, "go way if " + test + ";go 0");
        return x.there(0, 1, 0) != x.count(7) || x.there(0, 1, 1) != x.count(8);
    }

    private static void holds(String test) {
        due("'" + test + "' holds", isSo("hall 2 1", test), true);
        due("'not [" + test + "]' holds", isSo("hall 2 1", "not [" + test + "]"), false);
    }

    private static void fails(String test) {
        due("'" + test + "' holds", isSo("hall 2 1", test), false);
        due("'not [" + test + "]' holds", isSo("hall 2 1", "not [" + test + "]"), true);
    }

    /** A word says this of the seat to the right of the spot, in the first minute. */
    private static void says(String hall, String word, int value) {
        due(word + " in '" + hall + "' is " + value, isSo(hall, "way=2 and " + word + "=" + value), true);
    }

    private static void bytesAtMost() {
        sentence("LAWS 0 to 5: texts likewise");
        good("go 1" + times(" ", 395));
        good("go 1" + times(" ", 396));
        good(times(" ", 396) + "go 1");
        bad("go 1" + times(" ", 395) + "!", 399, 0);
        bad("go 1" + times(" ", 395) + ";", 400, 0);
        bad(times(" ", 397) + "go ", 400, 0);
        DeafSpot x = CHECK.with("hall 2 1");
        Check.tape(x, times(" ", 396) + "go x");
        due("a byte more does not come", x.feed(0x20000000, 0, 0, 0, 0), -1);
        due("the 400 are a law", x.law(), 0);
        due("its last byte counts", x.there(0, 1, 0), 1);
    }

    private static void lawsAtMost() {
        sentence("LAWS 0 to 5");
        DeafSpot x = new DeafSpot();
        for (int law = 0; law < 6; law++) {
            due("laws", x.count(5), law);
            due("law", Check.law(x, "go x if x=" + law), law);
        }
        due("laws", x.count(5), 6);
        due("a seventh", Check.law(x, "go x"), -1);
        due("laws", x.count(5), 6);
        due("hall", Check.hall(x, "hall 3 1"), 0);
        due("the last", x.there(5, 0, 0), 0);
        due("one more", x.there(6, 0, 0), -1);
    }

    private static void clausesAtMost() {
        sentence("12 CLAUSES at most");
        String all = "go 1";
        for (int clauses = 1; clauses <= 12; clauses++) {
            good(all);
            all += ";go 1";
        }
        bad(all, 60, 4);
        bad("", 0, 0);
        bad("go 1;", 5, 0);
        // the twelfth still counts
        DeafSpot x = CHECK.with("hall 2 1", times("go 0 if 1=2;", 11) + "go x");
        due("by the twelfth", x.there(0, 1, 0), 1);
    }

    private static void ifOrNot() {
        sentence("go SUM [ if TEST ]");
        good("go 1");
        good("go 1 if 1=1");
        bad("go", 2, 0);
        bad("go if 1=1", 3, 0);
        bad("go 1 if", 7, 0);
        bad("go 1 if 1=1 if 1=1", 12, 0);
        bad("if 1=1 go 1", 0, 0);
        bad("1", 0, 0);
    }

    private static void orsAndAnds() {
        sentence("TEST: PART { or PART }. PART: FACT { and FACT }");
        holds("1=1 or 1=1 and 1=2");
        holds("1=2 and 1=1 or 1=1");
        fails("1=2 or 1=1 and 1=2");
        fails("[1=1 or 1=1] and 1=2");
        holds("1=2 or 1=2 or 1=2 or 1=2 or 1=2 or 1=2 or 1=1");
        // whichever of several it is
        for (int i = 0; i < 5; i++) {
            holds(times("1=2 or ", i) + "1=1" + times(" or 1=2", 4 - i));
            fails(times("1=1 and ", i) + "1=2" + times(" and 1=1", 4 - i));
            holds(times("1=2 and 1=1 or ", i) + "1=1 and 1=1" + times(" or 1=1 and 1=2", 4 - i));
        }
        fails("1=1 and 1=1 and 1=1 and 1=1 and 1=1 and 1=2");
        bad("go 1 if or 1=1", 8, 0);
        bad("go 1 if and 1=1", 8, 0);
        bad("go 1 if 1=1 or", 14, 0);
        bad("go 1 if 1=1 and", 15, 0);
        bad("go 1 if 1=1 and or 1=1", 16, 0);
    }

    private static void facts() {
        sentence("FACT: not FACT | [ TEST ] (these brackets are signs) | SUM SIGN SUM");
        // not takes one fact alone
        holds("not 1=2 or 1=1");
        fails("not 1=1 and 1=1");
        holds("not not 1=1");
        holds("not [1=1 and 1=2]");
        fails("[1=2]");
        bad("go 1 if not", 11, 0);
        bad("go 1 if [", 9, 0);
        bad("go 1 if []", 9, 0);
        bad("go 1 if [1=1", 12, 0);
        bad("go 1 if [1=1]]", 13, 0);
        bad("go 1 if ]", 8, 0);
        bad("go 1 if 1", 9, 0);
        bad("go 1 if [1]=1", 10, 0);
        bad("go [1]", 3, 0);
        bad("go 1 if (1=1)", 8, 0);
        bad("go 1 if {1=1}", 8, 0);
        bad("go 1 if 1=1=1", 11, 0);
    }

    private static void signs() {
        sentence("SIGN one of < <= = >= >");
        int[][] pairs = {{0, 1}, {1, 1}, {2, 1}, {99998, 99999}, {99999, 99999}, {99999, 99998}};
        for (int[] p : pairs) {
            sign(p[0] + "<" + p[1], p[0] < p[1]);
            sign(p[0] + "<=" + p[1], p[0] <= p[1]);
            sign(p[0] + "=" + p[1], p[0] == p[1]);
            sign(p[0] + ">=" + p[1], p[0] >= p[1]);
            sign(p[0] + ">" + p[1], p[0] > p[1]);
        }
        for (String sign : new String[] {"==", "=<", "=>", "<>", "><", "<<", ">>", "= =", "< =", "> ="}) {
            bad("go 1 if 1" + sign + "1", 8 + sign.length(), 0);
        }
        bad("go 1 if 1<==1", 11, 0);
        bad("go 1 if 1!1", 9, 0);
    }

    private static void sign(String test, boolean is) {
        if (is) {
            holds(test);
            holds(test + " and 1=1");
            holds("1=1 and " + test);
        } else {
            fails(test);
            fails(test + " or 1=2");
            fails("1=2 or " + test);
        }
    }

    private static void sums() {
        sentence("SUM: TERM { (+ or -) TERM }");
        holds("9-4-3=2");
        holds("9-4+3=8");
        holds("1-2*3+4*5=15");
        holds("0-1<0");
        bad("go -1", 3, 0);
        bad("go +1", 3, 0);
        bad("go 1-", 5, 0);
        bad("go 1--1", 5, 0);
    }

    private static void terms() {
        sentence("TERM: VALUE { (* or / or %) VALUE }");
        holds("100/10/5=2");
        holds("100/10*5=50");
        holds("17%10*2=14");
        holds("2*17%10=4");
        bad("go *1", 3, 0);
        bad("go 1*", 5, 0);
        bad("go 1*/1", 5, 0);
        bad("go 1%%1", 5, 0);
    }

    private static void numbers() {
        sentence("NUMBER (1 to 5 digits, as far as digits go on)");
        good("go 0");
        good("go 00000");
        good("go 99999");
        bad("go 100000", 3, 1);
        bad("go 000000", 3, 1);
        bad("go 000001", 3, 1);
        holds("99999=99998+1");
        holds("00001=1");
        holds("00000=0");
        // not six digits as one and then another number
        bad("go 1 if 123456=1", 8, 1);
        bad("go 4294967297", 3, 1);
        bad("go 18446744073709551617", 3, 1);
        bad("go " + times("0", 397), 3, 1);
    }

    private static void wordsOfLetters() {
        sentence("WORDS (small letters, as far as these go on)");
        for (String word : WORDS) {
            good("go " + word);
            good("go 1 if " + word + "=1");
            good("go1-" + word + " if " + word + "=" + word);
            bad("go1-" + word + "if 1=1", 4, 0);
            bad("go " + word + "s", 3, 0);
            bad("go " + word + "a", 3, 0);
            bad("go " + word + "z", 3, 0);
            bad("go z" + word, 3, 0);
            bad("go " + word.toUpperCase(), 3, 0);
            // the signs next to the small letters end a word
            bad("go " + word + "`", 3 + word.length(), 0);
            bad("go " + word + "{", 3 + word.length(), 0);
            bad("go " + word + "A", 3 + word.length(), 0);
            bad("go " + word + "1", 3 + word.length(), 0);
            if (word.length() > 1) {
                bad("go " + word.substring(1), 3, 0);
                bad("go " + word.substring(0, word.length() - 1), 3, 0);
                bad("go " + word.charAt(0) + " " + word.substring(1), 3 + (word.charAt(0) == 'x' || word.charAt(0) == 'y' ? 2 : 0), 0);
            }
        }
        bad("gox", 0, 0);
        bad("go xif 1=1", 3, 0);
        bad("go x ify=1", 5, 0);
        bad("go x if notx=1", 8, 0);
        bad("go x if x=1 andy=1", 12, 0);
        bad("go x if x=1 ory=1", 12, 0);
        bad("go x if x=1and y=1 orx=1", 19, 0);
        good("go x if x=1and y=1or not[y=1]");
    }

    private static void heat() {
        sentence("WORDS .. of a SEAT to which the SPOT could go: heat");
        says("hall 2 1", "heat", 0);
        says("hall 2 1;warm 1 0 7", "heat", 7);
        // an eighth of 9999 has gone
        says("hall 2 1;warm 1 0 9999", "heat", 9999 - 1249);
    }

    private static void near() {
        sentence("near (HEAT of the SEATS by WAYS 1 to 4 from it, together)");
        String all = ";warm 0 0 1;warm 1 0 2;warm 2 0 3;warm 0 1 4;warm 1 1 5;warm 2 1 6;warm 0 2 7;warm 1 2 1;warm 2 2 2";
        int[][] ways = {{0, -1}, {1, 0}, {0, 1}, {-1, 0}};
        int[][] heat = {{1, 2, 3}, {4, 5, 6}, {7, 1, 2}};
        // each seat of nine, in corners, at edges and in the middle, as the seat to which the spot goes
        for (int x = 0; x < 3; x++) {
            for (int y = 0; y < 3; y++) {
                int sum = 0;
                for (int[] way : ways) {
                    int a = x + way[0];
                    int b = y + way[1];
                    sum += a < 0 || b < 0 || a > 2 || b > 2 ? 0 : heat[b][a];
                }
                int from = x == 1 ? 0 : 1;
                String hall = "hall 3 3;spot " + from + " " + y + all;
                due("near of " + x + " " + y, isSo(hall, "x=" + x + " and y=" + y + " and near=" + sum), true);
            }
        }
        says("hall 2 1;warm 0 0 7", "near", 7);
        says("hall 2 1;warm 1 0 7", "near", 0);
    }

    private static void guests() {
        sentence("guests (1 if somebody sits there, else 0)");
        says("hall 2 1;guest 1 0 9 1", "guests", 1);
        says("hall 2 1;guest 0 0 9 1", "guests", 0);
        says("hall 2 1", "guests", 0);
        DeafSpot x = CHECK.with("hall 2 1;guest 1 0 0 1", "go guests");
        due("with him", x.there(0, 1, 0), 1);
        due("goes", x.goes(0), true);
        due("without him", x.there(0, 1, 0), 0);
        due("comes", x.sits(0, 1, 0), true);
        due("with him", x.there(0, 1, 0), 1);
    }

    private static void xAndY() {
        sentence("x, y, minute (NOW, as told below)");
        says("hall 10 8;spot 8 7", "x", 9);
        says("hall 10 8;spot 8 7", "y", 7);
        due("x 0", isSo("hall 10 8;spot 1 0", "way=4 and x=0"), true);
        due("y 0", isSo("hall 10 8;spot 1 1", "way=1 and y=0"), true);
    }

    private static void minute() {
        sentence("minute (NOW, as told below)");
        says("hall 2 1", "minute", 0);
        DeafSpot x = CHECK.with("hall 2 1", "go 0", "go x if minute=1;go 0-x", "go x if minute=9998", "go x if minute=9999");
        due("tick", x.tick(0, 1), 1);
        due("1 in the second minute", x.there(1, 1, 0), 1);
        due("2 in the third", x.there(1, 2, 0), 0);
        for (int i = 0; i < 83; i++) {
            x.tick(0, 120);
        }
        due("tick", x.tick(0, 37), 9998);
        due("9998 in the last minute", x.there(2, 1, 0), 1);
        due("9999 behind it", x.there(3, 1, 0), 0);
        due("9999 behind it", x.there(3, 2, 0), 1);
    }

    private static void way() {
        sentence("way (the WAY to it)");
        int[][] ends = {{1, 1}, {1, 0}, {2, 1}, {1, 2}, {0, 1}};
        for (int way = 0; way <= 4; way++) {
            DeafSpot x = CHECK.with("hall 3 3;spot 1 1", "go 1 if way=" + way);
            due("x by way " + way, x.there(0, 1, 0), ends[way][0]);
            due("y by way " + way, x.there(0, 1, 1), ends[way][1]);
        }
        due("no way 5", isSo("hall 3 3;spot 1 1", "way>4"), false);
    }

    private static void back() {
        sentence("back (1 if the SPOT was there ahead of the MINUTE before this one, else 0");
        // in the second minute: where it was ahead of the first one
        DeafSpot x = CHECK.with("hall 4 1;spot 1 0", "go x", "go back", "go 1-back", "go 0");
        due("tick", x.tick(0, 1), 1);
        due("back to 1", x.there(1, 1, 0), 1);
        due("a fifth law", Check.law(x, "go 9 if back=1"), 4);
        due("1 and no more", x.there(4, 1, 0), 1);
        due("1 is back, the seat it is on not", x.there(2, 1, 0), 2);
        due("tick", x.tick(3, 1), 2);
        // it stayed: the seat it is on is the one
        due("back is where it stays", x.there(1, 1, 0), 2);
        due("away from it", x.there(2, 1, 0), 3);
        due("tick", x.tick(0, 1), 3);
        due("not two minutes ago", x.there(1, 1, 0), 2);
    }

    private static void backInTheFirst() {
        sentence("0 in the first one");
        says("hall 3 1;spot 0 0", "back", 0);
        due("of the seat it is on", CHECK.with("hall 2 1", "go 1-back*2").there(0, 1, 0), 0);
        DeafSpot x = CHECK.with("hall 2 1", "go x", "go back", "go 1 if back=0 and x=0");
        due("tick", x.tick(0, 3), 3);
        due("hall anew", Check.hall(x, "hall 2 1;spot 1 0"), 0);
        due("0 in the first one of a new hall", x.there(1, 1, 0), 1);
        due("0 in the first one of a new hall", x.there(2, 1, 0), 0);
    }

    private static void edge() {
        sentence("edge (the fewest steps from it out of the hall, less 1)");
        int[] columns = {1, 2, 3, 4, 5, 6, 7, 8, 9, 10};
        for (int c : columns) {
            DeafSpot x = CHECK.with("hall " + c + " 8");
            due("in " + c + " columns", x.seat((c - 1) / 2, 3, 3), Math.min(3, (c - 1) / 2));
            due("right of it", x.seat(c / 2, 4, 3), Math.min(3, (c - 1) / 2));
            due("in a corner", x.seat(0, 0, 3), 0);
            due("in the last corner", x.seat(c - 1, 7, 3), 0);
        }
        says("hall 10 8;spot 3 3", "edge", 3);
        says("hall 10 8;spot 4 4", "edge", 3);
        says("hall 10 8;spot 5 4", "edge", 3);
        says("hall 10 8;spot 6 4", "edge", 2);
        says("hall 10 8;spot 8 4", "edge", 0);
        says("hall 10 8;spot 4 1", "edge", 1);
        says("hall 2 1", "edge", 0);
    }

    private static void towardsZero() {
        sentence("/ is towards 0");
        holds("7/2=3");
        holds("6/7=0");
        holds("7/7=1");
        holds("99999/1=99999");
        holds("0/5=0");
        // a third of what is below 0 is above the true one: three of them are 2 more
        holds(LEAST + "/3*3=" + LEAST + "+2");
        holds(LEAST + "/2=0-65536*65536*65536*16384");
        holds(LEAST + "/1=" + LEAST);
    }

    private static void rest() {
        sentence("% its rest");
        holds("7%2=1");
        holds("6%7=6");
        holds("7%7=0");
        holds("7%1=0");
        holds("0%5=0");
        holds(LEAST + "%3=0-2");
        holds(LEAST + "%5=0-3");
        holds(LEAST + "%2=0");
    }

    private static void byZero() {
        sentence("both 0 by 0");
        holds("7/0=0");
        holds("7%0=0");
        holds("0/0=0");
        holds("0%0=0");
        holds("7/0+5=5");
        holds("3-7%0=3");
        holds(LEAST + "/0=0");
        holds(LEAST + "%0=0");
        holds("7/heat=0");
        holds("7%minute=0");
        DeafSpot x = CHECK.with("hall 2 1", "go 5/x");
        due("0 by x 0, 5 by x 1", x.there(0, 1, 0), 1);
    }

    private static void goesRound() {
        sentence("all goes round in 64 bits");
        holds(LEAST + "<0");
        holds(LEAST + "-1>0");
        holds(LEAST + "-1=" + MOST);
        holds(MOST + ">0");
        holds(MOST + "+1=" + LEAST);
        holds(MOST + "+1<" + MOST);
        holds("65536*65536*65536*65536=0");
        holds("0-" + LEAST + "=" + LEAST);
        holds(LEAST + "*2=0");
        holds("65536*65536>0");
        holds("65536*32768=65536*32767+65536");
        // of two sums the greater in 64 bits, not in 32
        due("2 to the 31st is above 0", CHECK.with("hall 2 1", "go 65536*32768*x").there(0, 1, 0), 1);
        due("2 to the 63rd is not", CHECK.with("hall 2 1", "go " + LEAST + "*x").there(0, 1, 0), 0);
        due("the least of all sums", CHECK.with("hall 2 1", "go " + LEAST + " if x=0;go " + LEAST + "+1").there(0, 1, 0), 1);
        due("the greatest of all sums", CHECK.with("hall 2 1", "go " + MOST + " if x=1;go " + MOST + "-1").there(0, 1, 0), 1);
    }

    private static void blanks() {
        sentence("Blanks (32) stand between as one likes.");
        good("go1");
        good("go x*y+3if x<=2and not[y>1]or 3=3;go 2");
        good("   go   x   *   y   +   3   if   x   <=   2   and   not   [   y   >   1   ]   or   3   =   3   ;   go   2   ");
        bad("g o 1", 0, 0);
        bad("go 1 2", 5, 0);
        bad("go he at", 3, 0);
        bad("go 1 if 1< =1", 11, 0);
        for (int sign = 1; sign < 32; sign++) {
            bad("go" + (char) sign + "1", 2, 0);
        }
        bad("go" + (char) 160 + "1", 2, 0);
    }

    private static void deep() {
        sentence("[ and not lie within one another 10 deep at most");
        for (int deep = 1; deep <= 10; deep++) {
            good("go 1 if " + times("[", deep) + "1=1" + times("]", deep));
            good("go 1 if " + times("not ", deep) + "1=1");
        }
        bad("go 1 if " + times("[", 11) + "1=1" + times("]", 11), 18, 2);
        bad("go 1 if " + times("not ", 11) + "1=1", 48, 2);
        // what is closed lies within nothing any more
        String ten = times("[", 10) + "1=1" + times("]", 10);
        String nots = times("not ", 10) + "1=1";
        good("go 1 if " + ten + " and " + ten + " or " + nots + " and " + ten);
        good("go 1 if " + ten + ";go 1 if " + ten + ";go 1 if " + nots);
        good("go 1 if " + times("[not ", 5) + "1=1" + times("]", 5) + " and " + ten);
        // and the tenth still counts
        fails(times("not ", 7) + "1=1");
        holds(times("not ", 8) + "1=1");
        DeafSpot x = CHECK.with("hall 2 1", "go x if " + times("[not ", 5) + "1=2" + times("]", 5), "go x if " + nots);
        due("not five times", x.there(0, 1, 0), 1);
        due("not ten times", x.there(1, 1, 0), 1);
    }

    private static void sixty() {
        sentence("at most 60 VALUES and FACTS made of a SIGN, together");
        good("go 1" + times("+1", 58));
        good("go 1" + times("+1", 59));
        bad("go 1" + times("+1", 60), 123, 3);
        // 57 values, then two and their fact
        good("go 1" + times("+1", 56) + " if 1=1");
        bad("go 1" + times("+1", 57) + " if 1=1", 124, 3);
        // 19 facts of three each, and three values more
        good("go 1+1+1 if 1=1" + times(" and 1=1", 18));
        bad("go 1+1+1+1 if 1=1" + times(" and 1=1", 18), "go 1+1+1+1 if 1=1".length() + 18 * 8 - 1, 3);
        // brackets, not, and, or are not counted
        good("go 1+1+1 if " + times("[not [", 3) + "1=1" + times("]]", 3) + times(" or 1=1", 18));
        // over all clauses
        good("go 1+1+1+1+1" + times(";go 1+1+1+1+1", 11));
        bad("go 1+1+1+1+1" + times(";go 1+1+1+1+1", 10) + ";go 1+1+1+1+1+1", 156, 3);
        // the sixtieth value still counts
        due("sixty", CHECK.with("hall 2 1", "go 0" + times("+0", 58) + "+x").there(0, 1, 0), 1);
    }

    private static void wrongBytes() {
        sentence("FAULTS 0, 1 likewise");
        for (int sign = 0; sign < 256; sign++) {
            char c = (char) sign;
            boolean digit = c >= '0' && c <= '9';
            boolean letter = c >= 'a' && c <= 'z';
            boolean joins = "+-*/%".indexOf(c) >= 0;
            byteBehindGo(c, digit);
            byteBehindValue(c, digit, joins);
            byteForSign(c, digit, joins);
            if (c != ' ') {
                bad(c + "go 1", 0, 0);
                bad("go 1;" + c, 5, 0);
            }
            if (c == ' ' || digit) {
                good("go" + c + "1");
            } else {
                bad("go" + c + "1", letter ? 0 : 2, 0);
            }
        }
    }

    private static void byteBehindGo(char c, boolean digit) {
        if (digit || c == 'x' || c == 'y') {
            good("go " + c);
        } else {
            bad("go " + c, c == ' ' ? 4 : 3, 0);
        }
    }

    private static void byteBehindValue(char c, boolean digit, boolean joins) {
        if (digit || c == ' ') {
            good("go 1" + c);
        } else {
            bad("go 1" + c, joins || c == ';' ? 5 : 4, 0);
        }
    }

    private static void byteForSign(char c, boolean digit, boolean joins) {
        String text = "go 1 if 1" + c + "1";
        if (c == '<' || c == '=' || c == '>') {
            good(text);
        } else {
            bad(text, digit || joins ? 11 : c == ' ' ? 10 : 9, 0);
        }
    }

    private static void ends() {
        sentence("or the end (behind the last byte");
        // every place of a law at which it may not end
        String text = "go x+1 if not [ 1 <= 2 and 3 > 4 ] or 5 = 6 ; go 7";
        for (int end = 0; end < text.length(); end++) {
            String part = text.substring(0, end);
            String last = part.substring(part.lastIndexOf(' ') + 1);
            // a word that is cut is another word, which can't stand there
            boolean cut = !last.isEmpty() && " g i n no a an o ".contains(" " + last + " ");
            DeafSpot x = new DeafSpot();
            int answer = Check.law(x, part);
            if (isLaw(part)) {
                due("law of '" + part + "'", answer, 0);
            } else {
                due("law of '" + part + "'", answer, Check.fault(cut ? end - last.length() : end, 0));
            }
        }
        bad(times(" ", 400), 400, 0);
        bad(times(" ", 398) + "go", 400, 0);
        good(times(" ", 397) + "go1");
        good("go " + times("1+", 59) + "1" + times(" ", 400 - 122));
    }

    /** The parts of that one law that are laws: up to a value, a fact, or all. */
    private static boolean isLaw(String part) {
        String text = part.trim();
        return text.equals("go x") || text.equals("go x+1") || text.endsWith("] or 5 = 6") || text.endsWith("]") || text.endsWith("go 7");
    }

    private static void moreDigits() {
        sentence("FAULTS 0, 1 likewise");
        bad("go 123456", 3, 1);
        bad("go   123456", 5, 1);
        bad("go 1+123456", 5, 1);
        bad("go 1 if 123456=1", 8, 1);
        bad("go 1 if 1=123456", 10, 1);
        bad("go 1;go 123456", 8, 1);
    }

    private static void tooDeep() {
        sentence("2 too deep (at the sign that opens, or the word not)");
        String ten = "go 1 if " + times("[", 10);
        bad(ten + "[", 18, 2);
        bad(ten + "  [", 20, 2);
        bad(ten + "not", 18, 2);
        bad(ten + "  not 1=1", 20, 2);
        bad(ten + "[[[[[", 18, 2);
        bad("go 1 if " + times("not ", 10) + "[1=1]", 48, 2);
        bad("go 1 if " + times("not[", 5) + "not", 28, 2);
        bad("go 1 if " + times("[not ", 5) + "[", 33, 2);
        // ahead of it another fault, or a word that is not not
        bad(ten + "note", 18, 0);
        bad(ten + "]", 18, 0);
        bad(ten, 18, 0);
        bad("go 1 if [" + times("[", 9) + "1=1" + times("]", 9) + " and " + times("[", 10), 44, 2);
    }

    private static void oneTooMany() {
        sentence("3 one VALUE or FACT too many (at its first byte; of a FACT at its SIGN)");
        String sixty = "go 1" + times("+1", 59);
        bad(sixty + "+1", 123, 3);
        bad(sixty + "+  1", 125, 3);
        bad(sixty + "+heat", 123, 3);
        bad(sixty + "*1", 123, 3);
        bad(sixty + ";go 1", 126, 3);
        bad(sixty + " if 1=1", 126, 3);
        bad(sixty + " if not [heat=1]", 131, 3);
        String fiftyNine = "go 1" + times("+1", 58);
        bad(fiftyNine + " if 1=1", 125, 3);
        bad(fiftyNine + " if 1  <=1", 127, 3);
        bad(fiftyNine + " if 1  >", 127, 3);
        String fiftyEight = "go 1" + times("+1", 57);
        bad(fiftyEight + " if 1=1", 124, 3);
        bad(fiftyEight + " if 1>=  1", 127, 3);
        bad(fiftyEight + " if 1=", 124, 0);
        bad(fiftyEight + " if 1+1=1", 125, 3);
    }

    private static void thirteenth() {
        sentence("4 a thirteenth CLAUSE (at its first byte)");
        String twelve = "go 1" + times(";go 1", 11);
        good(twelve);
        good(twelve + "   ");
        bad(twelve + ";go", 60, 4);
        bad(twelve + ";  go !", 62, 4);
        bad(twelve + ";", 60, 0);
        bad(twelve + ";gone", 60, 0);
        bad(twelve + ";hall", 60, 0);
        // there is one place in a law for each fault: an earlier one comes first
        bad("go !" + times(";go 1", 12), 3, 0);
    }

    private static void ofOnePlaceTheLeast() {
        sentence("Of one place the least.");
        String sixty = "go 1" + times("+1", 59);
        bad(sixty + "+!", 123, 0);
        bad(sixty + "+hot", 123, 0);
        bad(sixty + "+", 123, 0);
        bad(sixty + "+100000", 123, 1);
        bad("go 1" + times("+1", 58) + " if 1!1", 125, 0);
        bad("go 1" + times("+1", 58) + " if 1", 125, 0);
        bad(sixty + " if " + times("[", 11) + "1=1", 136, 2);
    }

    private static void allStays() {
        sentence("its number; -2 - its FAULT; NONE, and nothing happens: there are 6");
        DeafSpot x = CHECK.with("hall 3 1;guest 0 0 5 5;warm 1 0 9", "go heat", "go 0-heat");
        due("tick", x.tick(0, 2), 2);
        String before = Whole.of(x);
        for (String text : new String[] {"", "go", "go 1;", "go 100000", "go 1 if " + times("[", 11), "go 1" + times("+1", 60)}) {
            due("refused", Check.law(x, text) < -2, true);
        }
        due("all stays: " + before, before.equals(Whole.of(x)), true);
        due("the next number", Check.law(x, "go 3"), 2);
        // of what was refused, or taken, nothing is left in the next one
        x = CHECK.with("hall 3 1;spot 1 0", "go 5 if 1=2;go 0-x if 1=2;go 7-x", "go 5 if 1=2");
        due("no clause of the one before", x.there(1, 1, 0), 1);
        for (int i = 0; i < 20; i++) {
            due("refused", Check.law(x, "go 1" + times("+1", 58) + "+!"), Check.fault(121, 0));
        }
        due("law", Check.law(x, "go x*x-3*x+2-heat-near"), 2);
        due("no value of those", x.there(2, 1, 0), 0);
    }
}
