import java.util.Random;

/** Random runs of calls, the same each time, on the class and on the oracle. Looking at everything takes more than the
 *  512 calls that the document promises; the class answers on as before, which is more than it must. */
public final class OracleTest {
    private static final String[] WORDS = {"heat", "near", "guests", "x", "y", "minute", "way", "back", "edge"};
    private static final Check CHECK = new Check();

    private final Random random;
    private final DeafSpot spot = new DeafSpot();
    private final Oracle oracle = new Oracle();
    private final String name;
    private int columns = 1;
    private int rows = 1;
    private Runnable asked = () -> { };

    private OracleTest(long seed) {
        random = new Random(seed);
        name = "run " + seed + ": ";
    }

    public static void main(String[] args) {
        int runs = args.length > 0 ? Integer.parseInt(args[0]) : 700;
        for (int seed = 1; seed <= runs; seed++) {
            new OracleTest(seed).texts(12);
        }
        for (int seed = 1; seed <= runs; seed++) {
            new OracleTest(seed).calls(seed % 25 == 0);
        }
        for (int seed = 1; seed <= 6; seed++) {
            new OracleTest(seed).crowd();
        }
        CHECK.finish();
    }

    private int below(int n) {
        return random.nextInt(n);
    }

    private boolean one(int in) {
        return random.nextInt(in) == 0;
    }

    private String hallText(int most) {
        columns = 1 + below(most);
        rows = 1 + below(Math.min(8, most));
        StringBuilder text = new StringBuilder("hall " + columns + " " + rows);
        StringBuilder taken = new StringBuilder();
        int clauses = below(14) + (one(4) ? 14 : 0);
        for (int i = 0; i < clauses && text.length() < 380; i++) {
            int x = below(columns);
            int y = below(rows);
            String seat = " " + x + " " + y + " ";
            switch (below(8)) {
                case 0:
                case 1:
                case 6:
                case 7:
                    if (taken.indexOf("(" + x + "," + y + ")") < 0 || one(60)) {
                        text.append(";guest").append(seat).append(below(100)).append(' ').append(below(10));
                        taken.append("(" + x + "," + y + ")");
                    }
                    break;
                case 2: text.append(";fan").append(seat).append(1 + below(4)).append(' ').append(1 + below(one(2) ? 9 : 99)); break;
                case 3: text.append(";snow").append(seat).append(1 + below(one(2) ? 9 : 99)); break;
                case 4: text.append(";warm").append(seat).append(below(one(2) ? 100 : 10000)); break;
                default:
                    if (text.indexOf("spot") < 0 || one(20)) {
                        text.append(";spot").append(seat);
                    }
                    break;
            }
        }
        return text.length() > 400 ? "hall 2 2" : text.toString();
    }

    private String value() {
        return one(3) ? Integer.toString(below(one(4) ? 100000 : 12)) : WORDS[below(9)];
    }

    private String sum() {
        StringBuilder text = new StringBuilder(value());
        for (int i = below(5); i > 0; i--) {
            text.append(one(3) ? " " : "").append("+-*/%".charAt(below(5))).append(one(3) ? " " : "").append(value());
        }
        return text.toString();
    }

    private String test(int depth) {
        StringBuilder text = new StringBuilder(fact(depth));
        for (int i = one(2) ? below(3) : 0; i > 0; i--) {
            text.append(one(2) ? " and " : " or ").append(fact(depth));
        }
        return text.toString();
    }

    private String fact(int depth) {
        if (depth > 0 && one(4)) {
            return "not " + fact(depth - 1);
        }
        if (depth > 0 && one(4)) {
            return "[" + test(depth - 1) + "]";
        }
        return sum() + new String[] {"<", "<=", "=", ">=", ">"}[below(5)] + sum();
    }

    private String lawText() {
        StringBuilder text = new StringBuilder();
        if (one(4)) {
            return new String[] {"go heat", "go 0-heat", "go near", "go heat*2+near-back*9", "go 0-near+guests"}[below(5)];
        }
        for (int i = below(4); i >= 0; i--) {
            text.append("go ").append(sum());
            if (i > 0 || one(2)) {
                text.append(" if ").append(test(one(10) ? 12 : 3));
            }
            text.append(i > 0 ? ";" : "");
        }
        return text.length() > 400 ? "go heat" : text.toString();
    }

    private String spoiled(String text) {
        StringBuilder other = new StringBuilder(text);
        for (int i = below(3); i >= 0; i--) {
            int at = below(other.length() + 1);
            switch (below(5)) {
                case 0: other.setLength(at); break;
                case 1: other.insert(at, "; [<=>]+-*/%!0123456789azAZ".charAt(below(27))); break;
                case 2: other.insert(at, new String[] {"go", "if", "not", "and ", "or ", "hall", "guest 0 0 1 1;", "spot 0 0;", "x", "12345", "[["}[below(11)]); break;
                case 3:
                    if (at < other.length()) {
                        other.deleteCharAt(at);
                    }
                    break;
                default:
                    if (at < other.length()) {
                        other.setCharAt(at, (char) (one(4) ? below(256) : 32 + below(95)));
                    }
                    break;
            }
        }
        if (other.length() > 400) {
            other.setLength(400);
        }
        return other.toString();
    }

    /** A law with as many values, clauses and levels as may be, or one more. */
    private String brimful() {
        StringBuilder text = new StringBuilder("go ");
        switch (below(3)) {
            case 0:
                text.append("1");
                for (int i = 57 + below(4); i > 0; i--) {
                    text.append(one(9) ? "+ " : "+").append(one(3) ? "x" : "7");
                }
                text.append(" if ").append(one(2) ? "1=1" : "x");
                break;
            case 1:
                text.append("1");
                for (int i = 10 + below(3); i > 0; i--) {
                    text.append(";").append(one(9) ? " " : "").append("go 1");
                }
                break;
            default:
                text.append("y if ");
                int deep = 9 + below(3);
                StringBuilder close = new StringBuilder();
                for (int i = 0; i < deep; i++) {
                    boolean not = one(2);
                    text.append(not ? "not " : "[");
                    close.append(not ? "" : "]");
                }
                text.append("x>=1").append(close).append(one(2) ? " and not [y=1]" : "");
                break;
        }
        return text.toString();
    }

    private void put(String text) {
        due("end(0)", spot.end(0), oracle.end(0));
        for (int k = 0; 20 * k < text.length(); k++) {
            int[] n = Check.numbers(text, k);
            due("feed", spot.feed(n[0], n[1], n[2], n[3], n[4]), oracle.feed(n[0], n[1], n[2], n[3], n[4]));
        }
        due("end", spot.end(text.length()), oracle.end(text.length()));
    }

    private void hall(String text) {
        put(text);
        due("hall of " + text, spot.hall(), oracle.hall());
    }

    private void law(String text) {
        put(text);
        due("law of " + text, spot.law(), oracle.law());
    }

    private void due(String call, int got, int want) {
        CHECK.due(name + call, got, want);
    }

    /** Texts alone, most of them spoiled. */
    private void texts(int number) {
        for (int i = 0; i < number; i++) {
            String text = hallText(10);
            hall(one(4) ? text : spoiled(text));
            String rule = one(3) ? brimful() : lawText();
            law(one(5) ? rule : spoiled(rule));
        }
        for (int what = -1; what <= 17; what++) {
            due("count(" + what + ")", spot.count(what), oracle.count(what));
        }
    }

    private void calls(boolean large) {
        for (int what = -1; what <= 17 && one(8); what++) {
            due("count(" + what + ")", spot.count(what), oracle.count(what));
        }
        if (!one(30)) {
            hall(hallText(large ? 10 : 4));
        }
        for (int i = 1 + below(3); i > 0 && !one(30); i--) {
            law(lawText());
        }
        for (int i = 0; i < (large ? 40 : 70); i++) {
            call(large);
        }
        compareAll("at the end");
    }

    /** As many of all as there may be. */
    private void crowd() {
        columns = 10;
        rows = 8;
        StringBuilder text = new StringBuilder("hall 10 8;spot " + below(10) + " " + below(8));
        for (int i = 0; i < 12; i++) {
            text.append(";guest ").append(i % 4 * 3).append(' ').append(i / 4 * 3).append(' ').append(below(100)).append(" 1");
        }
        for (int i = 0; i < 6; i++) {
            text.append(";fan ").append(below(10)).append(' ').append(below(8)).append(' ').append(1 + below(4)).append(" 9");
        }
        for (int i = 0; i < 8; i++) {
            text.append(";snow ").append(below(10)).append(' ').append(below(8)).append(" 5");
        }
        hall(text.toString().replace("guest 9 ", "guest 8 "));
        for (String rule : new String[] {"go heat", "go near-heat", "go 0-heat-back", "go x", "go y-x", "go 0"}) {
            law(rule);
        }
        for (int i = 0; i < 120; i++) {
            call(true);
        }
        compareAll("at the end");
    }

    private int x() {
        return below(columns + (one(6) ? 2 : 0)) - (one(20) ? 1 : 0);
    }

    private int y() {
        return below(rows + (one(6) ? 2 : 0)) - (one(20) ? 1 : 0);
    }

    private int who() {
        int guests = Math.max(1, oracle.count(2));
        return one(12) ? below(14) - 1 : below(guests);
    }

    private int rule() {
        int rules = Math.max(1, oracle.count(5));
        return one(20) ? below(9) - 1 : below(rules);
    }

    private int minutes(int most) {
        return one(12) ? most + below(3) - 1 : one(8) ? below(3) - 1 : below(most + 1);
    }

    private int what(int most) {
        return one(15) ? below(most + 3) - 1 : below(most + 1);
    }

    private void call(boolean large) {
        if (one(3)) {
            hand();
            if (one(3)) {
                asked.run();
            }
        } else if (one(10)) {
            asked.run();
        } else if (one(2)) {
            look();
        } else {
            search(large);
        }
    }

    private void hand() {
        int g = who();
        int h = who();
        int x = x();
        int y = y();
        int k = one(15) ? below(7) - 1 : below(4);
        switch (below(11)) {
            case 0:
            case 1: CHECK.due(name + "sits(" + g + ", " + x + ", " + y + ")", spot.sits(g, x, y), oracle.sits(g, x, y)); break;
            case 2: CHECK.due(name + "goes(" + g + ")", spot.goes(g), oracle.goes(g)); break;
            case 3: CHECK.due(name + "change(" + g + ", " + h + ")", spot.change(g, h), oracle.change(g, h)); break;
            case 4:
                int n = one(9) ? 98 + below(5) : below(101) - 1;
                due("warms(" + g + ", " + n + ")", spot.warms(g, n), oracle.warms(g, n));
                break;
            case 5:
            case 6:
                int law = rule();
                int minutes = one(3) ? minutes(120) : 1 + below(4);
                due("tick(" + law + ", " + minutes + ")", spot.tick(law, minutes), oracle.tick(law, minutes));
                break;
            case 7: due("image(" + k + ")", spot.image(k), oracle.image(k)); break;
            case 8:
                due("back(" + k + ")", spot.back(k), oracle.back(k));
                columns = Math.max(1, oracle.count(0));
                rows = Math.max(1, oracle.count(1));
                compareAll("behind back");
                break;
            case 9:
                int seed = one(9) ? -1 - below(5) : below(Integer.MAX_VALUE);
                due("seed(" + seed + ")", spot.seed(seed), oracle.seed(seed));
                break;
            default:
                if (one(4)) {
                    String text = hallText(4);
                    hall(one(2) ? text : spoiled(text));
                    columns = Math.max(1, oracle.count(0));
                    rows = Math.max(1, oracle.count(1));
                } else if (one(2)) {
                    law(one(4) ? spoiled(lawText()) : lawText());
                } else {
                    int[] f = Check.numbers("go 1", 0);
                    due("feed", spot.feed(f[0], f[1], f[2], f[3], -f[4]), oracle.feed(f[0], f[1], f[2], f[3], -f[4]));
                    int end = below(60) - 2;
                    due("end(" + end + ")", spot.end(end), oracle.end(end));
                }
                break;
        }
    }

    private void look() {
        int x = x();
        int y = y();
        int g = who();
        int w;
        switch (below(7)) {
            case 0:
                w = what(3);
                due("seat(" + x + ", " + y + ", " + w + ")", spot.seat(x, y, w), oracle.seat(x, y, w));
                break;
            case 1:
                w = what(4);
                due("guest(" + g + ", " + w + ")", spot.guest(g, w), oracle.guest(g, w));
                break;
            case 2:
                w = what(3);
                int f = below(8) - 1;
                due("fan(" + f + ", " + w + ")", spot.fan(f, w), oracle.fan(f, w));
                break;
            case 3:
                w = what(1);
                int ago = one(3) ? below(124) - 1 : below(6);
                due("log(" + ago + ", " + w + ")", spot.log(ago, w), oracle.log(ago, w));
                break;
            case 4: due("hushed(" + x + ", " + y + ")", spot.hushed(x, y), oracle.hushed(x, y)); break;
            default:
                w = below(19) - 1;
                due("count(" + w + ")", spot.count(w), oracle.count(w));
                break;
        }
    }

    /** A question asked now, and perhaps once more when things have changed. */
    private void ask(Runnable question) {
        question.run();
        asked = question;
    }

    private void search(boolean large) {
        int law = rule();
        int g = who();
        int n = minutes(60);
        int n30 = minutes(large ? 8 : 30);
        int w1 = what(1);
        int w2 = what(2);
        String head = "(" + law + ", " + n + ", ";
        String head30 = "(" + law + ", " + n30 + ", ";
        switch (below(13)) {
            case 0: ask(() -> due("there" + head + w1 + ")", spot.there(law, n, w1), oracle.there(law, n, w1))); break;
            case 1: ask(() -> due("deaf" + head + g + ")", spot.deaf(law, n, g), oracle.deaf(law, n, g))); break;
            case 2: ask(() -> due("critic" + head + w1 + ")", spot.critic(law, n, w1), oracle.critic(law, n, w1))); break;
            case 3: ask(() -> due("seated" + head30 + g + ", " + w2 + ")", spot.seated(law, n30, g, w2), oracle.seated(law, n30, g, w2))); break;
            case 4: ask(() -> due("changed" + head30 + g + ")", spot.changed(law, n30, g), oracle.changed(law, n30, g))); break;
            case 5: ask(() -> due("without" + head + g + ")", spot.without(law, n, g), oracle.without(law, n, g))); break;
            case 6: ask(() -> due("baron" + head + w1 + ")", spot.baron(law, n, w1), oracle.baron(law, n, w1))); break;
            case 7: ask(() -> due("led" + head + ")", spot.led(law, n), oracle.led(law, n))); break;
            case 8: fans(law, minutes(large ? 4 : 10), x(), y(), what(3)); break;
            case 9: spans(law, n, g, minutes(20), what(4)); break;
            case 10:
            case 11: spies(law); break;
            default: evenings(law, minutes(10), n30, g, w2); break;
        }
    }

    private void fans(int law, int n, int x, int y, int w) {
        ask(() -> due("fanned(" + law + ", " + n + ", " + x + ", " + y + ", " + w + ")", spot.fanned(law, n, x, y, w), oracle.fanned(law, n, x, y, w)));
    }

    private void spans(int law, int n, int g, int d, int w) {
        ask(() -> due("span(" + law + ", " + n + ", " + g + ", " + d + ", " + w + ")", spot.span(law, n, g, d, w), oracle.span(law, n, g, d, w)));
    }

    private void evenings(int law, int m, int n, int g, int w) {
        ask(() -> due("evenings(" + law + ", " + m + ", " + n + ", " + g + ", " + w + ")", spot.evenings(law, m, n, g, w), oracle.evenings(law, m, n, g, w)));
    }

    private void spies(int law) {
        int n = minutes(30);
        int sets = 1 << oracle.count(2);
        int some = below(sets) & below(sets);
        int hear = one(20) ? (one(2) ? Integer.MIN_VALUE : sets) : some;
        int not = one(20) ? (one(2) ? -1 : sets) : below(sets) & below(sets) & (one(10) ? -1 : ~some);
        int w = what(2);
        ask(() -> due("spy(" + law + ", " + n + ", " + hear + ", " + not + ", " + w + ")", spot.spy(law, n, hear, not, w), oracle.spy(law, n, hear, not, w)));
    }

    /** Everything that can be looked at. */
    private void compareAll(String when) {
        for (int what = -1; what <= 17; what++) {
            due(when + " count(" + what + ")", spot.count(what), oracle.count(what));
        }
        for (int i = 0; i < 12; i++) {
            for (int what = 0; what < 5; what++) {
                due(when + " guest(" + i + ", " + what + ")", spot.guest(i, what), oracle.guest(i, what));
                due(when + " fan(" + i + ", " + what + ")", spot.fan(i, what), oracle.fan(i, what));
            }
        }
        for (int x = 0; x < columns; x++) {
            for (int y = 0; y < rows; y++) {
                due(when + " hushed(" + x + ", " + y + ")", spot.hushed(x, y), oracle.hushed(x, y));
                for (int what = 0; what < 4; what++) {
                    due(when + " seat(" + x + ", " + y + ", " + what + ")", spot.seat(x, y, what), oracle.seat(x, y, what));
                }
            }
        }
        for (int ago = 0; ago <= 121; ago++) {
            due(when + " log(" + ago + ", 0)", spot.log(ago, 0), oracle.log(ago, 0));
            due(when + " log(" + ago + ", 1)", spot.log(ago, 1), oracle.log(ago, 1));
        }
    }
}
