import java.math.BigInteger;
import java.util.ArrayList;
import java.util.List;

/** The document once more, as slow and plain as can be and built otherwise than the class: texts become lists of
 *  tokens, laws become trees, every look ahead copies all there is. */
final class Oracle {
    static final int[] DX = {0, 0, 1, 0, -1};
    static final int[] DY = {0, -1, 0, 1, 0};

    static final class Fault extends Exception {
        private static final long serialVersionUID = 1L;
        final int number;

        Fault(int place, int kind) {
            super("fault");
            number = 1 + 8 * place + kind;
        }
    }

    /** kind: 'n' a number, 'w' a word, 's' another sign, 'e' the end. */
    static final class Token {
        final char kind;
        final String text;
        final int place;

        Token(char kind, String text, int place) {
            this.kind = kind;
            this.text = text;
            this.place = place;
        }

        boolean is(String other) {
            return kind != 'e' && text.equals(other);
        }
    }

    static List<Token> tokens(String text) {
        List<Token> list = new ArrayList<>();
        java.util.regex.Matcher m = java.util.regex.Pattern.compile("[0-9]+|[a-z]+|<=|>=|[^ ]", java.util.regex.Pattern.DOTALL).matcher(text);
        while (m.find()) {
            char first = m.group().charAt(0);
            char kind = first >= '0' && first <= '9' ? 'n' : first >= 'a' && first <= 'z' ? 'w' : 's';
            list.add(new Token(kind, m.group(), m.start()));
        }
        list.add(new Token('e', "", text.length()));
        return list;
    }

    static int number(Token token, int least, int most) throws Fault {
        if (token.kind != 'n') {
            throw new Fault(token.place, 0);
        }
        if (token.text.length() > 5 || Integer.parseInt(token.text) < least || Integer.parseInt(token.text) > most) {
            throw new Fault(token.place, 1);
        }
        return Integer.parseInt(token.text);
    }

    static final class Guest {
        int x, y, warm, sort, deaf;
        boolean away;

        Guest copy() {
            Guest g = new Guest();
            g.x = x;
            g.y = y;
            g.warm = warm;
            g.sort = sort;
            g.deaf = deaf;
            g.away = away;
            return g;
        }
    }

    static final class State {
        int columns, rows, now, out, melted, given, told;
        int[] spot = {0, 0};
        List<int[]> path = new ArrayList<>();
        int[][] heat = new int[0][0];
        List<Guest> guests = new ArrayList<>();
        List<int[]> fans = new ArrayList<>();
        List<int[]> snows = new ArrayList<>();
        long x;

        State copy() {
            State s = new State();
            s.columns = columns;
            s.rows = rows;
            s.now = now;
            s.out = out;
            s.melted = melted;
            s.given = given;
            s.told = told;
            s.spot = spot.clone();
            s.path = new ArrayList<>(path);
            s.heat = new int[columns][];
            for (int i = 0; i < columns; i++) {
                s.heat[i] = heat[i].clone();
            }
            for (Guest g : guests) {
                s.guests.add(g.copy());
            }
            s.fans = new ArrayList<>(fans);
            s.snows = new ArrayList<>(snows);
            s.x = x;
            return s;
        }

        boolean in(int a, int b) {
            return a >= 0 && b >= 0 && a < columns && b < rows;
        }

        int on(int a, int b) {
            for (int i = 0; i < guests.size(); i++) {
                Guest g = guests.get(i);
                if (!g.away && g.x == a && g.y == b) {
                    return i;
                }
            }
            return -1;
        }

        int edge(int a, int b) {
            int steps = 1;
            while (in(a - steps, b) && in(a + steps, b) && in(a, b - steps) && in(a, b + steps)) {
                steps++;
            }
            return steps - 1;
        }

        boolean here(int g) {
            return g >= 0 && g < guests.size() && !guests.get(g).away;
        }

        /** path has where the spot was ahead of each minute and behind it. */
        void minute(Rule rule) {
            for (Guest g : guests) {
                if (!g.away) {
                    heat[g.x][g.y] += g.warm;
                    given += g.warm;
                }
            }
            for (int[] f : fans) {
                int part = Math.min(heat[f[0]][f[1]], f[3]);
                heat[f[0]][f[1]] -= part;
                int a = f[0] + DX[f[2]];
                int b = f[1] + DY[f[2]];
                if (in(a, b)) {
                    heat[a][b] += part;
                } else {
                    out += part;
                }
            }
            for (int[] f : snows) {
                int part = Math.min(heat[f[0]][f[1]], f[2]);
                heat[f[0]][f[1]] -= part;
                melted += part;
            }
            int[][] old = new int[columns][];
            for (int i = 0; i < columns; i++) {
                old[i] = heat[i].clone();
            }
            for (int a = 0; a < columns; a++) {
                for (int b = 0; b < rows; b++) {
                    for (int w = 1; w <= 4; w++) {
                        if (in(a + DX[w], b + DY[w])) {
                            heat[a][b] += old[a + DX[w]][b + DY[w]] / 8 - old[a][b] / 8;
                        }
                    }
                }
            }
            int best = 0;
            for (int w = 1; w <= 4; w++) {
                if (in(spot[0] + DX[w], spot[1] + DY[w]) && rule.worth(this, w) > rule.worth(this, best)) {
                    best = w;
                }
            }
            if (path.isEmpty()) {
                path.add(spot.clone());
            }
            spot = new int[] {spot[0] + DX[best], spot[1] + DY[best]};
            path.add(spot.clone());
            now++;
            int who = on(spot[0], spot[1]);
            if (who >= 0) {
                guests.get(who).deaf++;
            }
        }

        State ahead(Rule rule, int n) {
            State s = copy();
            for (int i = 0; i < n; i++) {
                s.minute(rule);
            }
            return s;
        }

        long word(String word, int way) {
            int a = spot[0] + DX[way];
            int b = spot[1] + DY[way];
            switch (word) {
                case "heat": return heat[a][b];
                case "near": {
                    long sum = 0;
                    for (int w = 1; w <= 4; w++) {
                        sum += in(a + DX[w], b + DY[w]) ? heat[a + DX[w]][b + DY[w]] : 0;
                    }
                    return sum;
                }
                case "guests": return on(a, b) >= 0 ? 1 : 0;
                case "x": return a;
                case "y": return b;
                case "minute": return now;
                case "way": return way;
                case "back": {
                    if (path.size() < 2) {
                        return 0;
                    }
                    int[] was = path.get(path.size() - 2);
                    return was[0] == a && was[1] == b ? 1 : 0;
                }
                case "edge": return edge(a, b);
                default: throw new IllegalStateException(word);
            }
        }
    }

    interface Node {
        long of(State s, int way);
    }

    static final class Rule {
        final List<Node> sums = new ArrayList<>();
        final List<Node> tests = new ArrayList<>();

        long worth(State s, int way) {
            for (int i = 0; i < sums.size(); i++) {
                if (tests.get(i) == null || tests.get(i).of(s, way) == 1) {
                    return sums.get(i).of(s, way);
                }
            }
            return 0;
        }
    }

    static final class LawParser {
        final List<Token> list;
        int at = 0;
        int used = 0;

        LawParser(String text) {
            list = tokens(text);
        }

        Token now() {
            return list.get(at);
        }

        Fault wrong() {
            return new Fault(now().place, 0);
        }

        Rule rule() throws Fault {
            Rule rule = new Rule();
            while (true) {
                if (!now().is("go")) {
                    throw wrong();
                }
                if (rule.sums.size() == 12) {
                    throw new Fault(now().place, 4);
                }
                at++;
                rule.sums.add(sum());
                Node test = null;
                if (now().is("if")) {
                    at++;
                    test = test(0);
                }
                rule.tests.add(test);
                if (now().kind == 'e') {
                    return rule;
                }
                if (!now().is(";")) {
                    throw wrong();
                }
                at++;
            }
        }

        Node test(int depth) throws Fault {
            Node left = part(depth);
            while (now().is("or")) {
                at++;
                Node a = left;
                Node b = part(depth);
                left = (s, w) -> a.of(s, w) + b.of(s, w) > 0 ? 1 : 0;
            }
            return left;
        }

        Node part(int depth) throws Fault {
            Node left = fact(depth);
            while (now().is("and")) {
                at++;
                Node a = left;
                Node b = fact(depth);
                left = (s, w) -> a.of(s, w) + b.of(s, w) == 2 ? 1 : 0;
            }
            return left;
        }

        Node fact(int depth) throws Fault {
            if ((now().is("not") || now().is("[")) && depth == 10) {
                throw new Fault(now().place, 2);
            }
            if (now().is("not")) {
                at++;
                Node a = fact(depth + 1);
                return (s, w) -> a.of(s, w) == 0 ? 1 : 0;
            }
            if (now().is("[")) {
                at++;
                Node a = test(depth + 1);
                if (!now().is("]")) {
                    throw wrong();
                }
                at++;
                return a;
            }
            Node a = sum();
            String sign = now().text;
            if (!List.of("<", "<=", "=", ">=", ">").contains(sign)) {
                throw wrong();
            }
            use();
            at++;
            Node b = sum();
            switch (sign) {
                case "<": return (s, w) -> a.of(s, w) < b.of(s, w) ? 1 : 0;
                case "<=": return (s, w) -> a.of(s, w) <= b.of(s, w) ? 1 : 0;
                case "=": return (s, w) -> a.of(s, w) == b.of(s, w) ? 1 : 0;
                case ">=": return (s, w) -> a.of(s, w) >= b.of(s, w) ? 1 : 0;
                default: return (s, w) -> a.of(s, w) > b.of(s, w) ? 1 : 0;
            }
        }

        void use() throws Fault {
            used++;
            if (used > 60) {
                throw new Fault(now().place, 3);
            }
        }

        static BigInteger big(long n) {
            return BigInteger.valueOf(n);
        }

        Node sum() throws Fault {
            Node left = term();
            while (now().is("+") || now().is("-")) {
                boolean plus = now().is("+");
                at++;
                Node a = left;
                Node b = term();
                left = (s, w) -> {
                    BigInteger one = big(a.of(s, w));
                    BigInteger two = big(b.of(s, w));
                    return (plus ? one.add(two) : one.subtract(two)).longValue();
                };
            }
            return left;
        }

        Node term() throws Fault {
            Node left = value();
            while (now().is("*") || now().is("/") || now().is("%")) {
                String sign = now().text;
                at++;
                Node a = left;
                Node b = value();
                left = (s, w) -> {
                    BigInteger one = big(a.of(s, w));
                    BigInteger two = big(b.of(s, w));
                    if (sign.equals("*")) {
                        return one.multiply(two).longValue();
                    }
                    if (two.signum() == 0) {
                        return 0;
                    }
                    return (sign.equals("/") ? one.divide(two) : one.remainder(two)).longValue();
                };
            }
            return left;
        }

        Node value() throws Fault {
            Token token = now();
            if (token.kind == 'w') {
                if (!List.of("heat", "near", "guests", "x", "y", "minute", "way", "back", "edge").contains(token.text)) {
                    throw wrong();
                }
                use();
                at++;
                return (s, w) -> s.word(token.text, w);
            }
            int n = number(token, 0, 99999);
            use();
            at++;
            return (s, w) -> n;
        }
    }

    static State hallOf(String text) throws Fault {
        List<Token> list = tokens(text);
        State s = new State();
        boolean spotTold = false;
        int at = 0;
        for (int clause = 0; ; clause++) {
            Token word = list.get(at);
            if (!List.of("hall", "guest", "fan", "snow", "spot", "warm").contains(word.text)) {
                throw new Fault(word.place, 0);
            }
            String w = word.text;
            if (clause == 32 || w.equals("hall") && clause > 0 || !w.equals("hall") && clause == 0
                || w.equals("guest") && s.guests.size() == 12 || w.equals("fan") && s.fans.size() == 6
                || w.equals("snow") && s.snows.size() == 8 || w.equals("spot") && spotTold) {
                throw new Fault(word.place, 4);
            }
            at++;
            int a = number(list.get(at), w.equals("hall") ? 1 : 0, w.equals("hall") ? 10 : s.columns - 1);
            int place = list.get(at).place;
            at++;
            int b = number(list.get(at), w.equals("hall") ? 1 : 0, w.equals("hall") ? 8 : s.rows - 1);
            at++;
            if (w.equals("guest") && s.on(a, b) >= 0) {
                throw new Fault(place, 5);
            }
            int c = 0;
            int d = 0;
            if (w.equals("warm")) {
                c = number(list.get(at++), 0, 9999);
            } else if (w.equals("snow")) {
                c = number(list.get(at++), 1, 99);
            } else if (w.equals("guest")) {
                c = number(list.get(at++), 0, 99);
                d = number(list.get(at++), 0, 9);
            } else if (w.equals("fan")) {
                c = number(list.get(at++), 1, 4);
                d = number(list.get(at++), 1, 99);
            }
            switch (w) {
                case "hall": {
                    s.columns = a;
                    s.rows = b;
                    s.heat = new int[a][b];
                    break;
                }
                case "guest": {
                    Guest g = new Guest();
                    g.x = a;
                    g.y = b;
                    g.warm = c;
                    g.sort = d;
                    s.guests.add(g);
                    break;
                }
                case "fan": s.fans.add(new int[] {a, b, c, d}); break;
                case "snow": s.snows.add(new int[] {a, b, c}); break;
                case "spot": {
                    s.spot = new int[] {a, b};
                    spotTold = true;
                    break;
                }
                default: s.heat[a][b] = c; break;
            }
            if (list.get(at).kind == 'e') {
                break;
            }
            if (!list.get(at).is(";")) {
                throw new Fault(list.get(at).place, 0);
            }
            at++;
        }
        for (int[] column : s.heat) {
            for (int h : column) {
                s.told += h;
            }
        }
        return s;
    }

    private final StringBuilder tape = new StringBuilder();
    private final List<Rule> rules = new ArrayList<>();
    State s = new State();
    private final State[] images = new State[4];

    int feed(int a, int b, int c, int d, int e) {
        if (tape.length() > 380) {
            return -1;
        }
        for (int n : new int[] {a, b, c, d, e}) {
            for (byte part : java.nio.ByteBuffer.allocate(4).putInt(n).array()) {
                tape.append((char) (part & 255));
            }
        }
        return tape.length();
    }

    int end(int n) {
        if (n < 0 || n > tape.length()) {
            return -1;
        }
        tape.setLength(n);
        return n;
    }

    int hall() {
        String text = tape.toString();
        tape.setLength(0);
        try {
            State fresh = hallOf(text);
            fresh.x = s.x;
            s = fresh;
            return s.guests.size();
        } catch (Fault f) {
            return -2 - f.number;
        }
    }

    int law() {
        if (rules.size() == 6) {
            return -1;
        }
        String text = tape.toString();
        tape.setLength(0);
        try {
            rules.add(new LawParser(text).rule());
            return rules.size() - 1;
        } catch (Fault f) {
            return -2 - f.number;
        }
    }

    int seat(int x, int y, int what) {
        if (!s.in(x, y) || what < 0 || what > 3) {
            return -1;
        }
        return what == 0 ? s.heat[x][y] : what == 1 ? s.on(x, y) : what == 2 ? (s.spot[0] == x && s.spot[1] == y ? 1 : 0) : s.edge(x, y);
    }

    int guest(int guest, int what) {
        if (guest < 0 || guest >= s.guests.size() || what < 0 || what > 4) {
            return -1;
        }
        Guest g = s.guests.get(guest);
        return new int[] {g.away ? -1 : g.x, g.away ? -1 : g.y, g.warm, g.sort, g.deaf}[what];
    }

    int fan(int fan, int what) {
        return fan < 0 || fan >= s.fans.size() || what < 0 || what > 3 ? -1 : s.fans.get(fan)[what];
    }

    boolean sits(int guest, int x, int y) {
        if (guest < 0 || guest >= s.guests.size() || !s.in(x, y) || s.on(x, y) >= 0) {
            return false;
        }
        move(s, guest, x, y);
        return true;
    }

    static void move(State s, int guest, int x, int y) {
        s.guests.get(guest).away = false;
        s.guests.get(guest).x = x;
        s.guests.get(guest).y = y;
    }

    boolean goes(int guest) {
        if (!s.here(guest)) {
            return false;
        }
        s.guests.get(guest).away = true;
        return true;
    }

    static void swap(State s, int one, int other) {
        Guest a = s.guests.get(one);
        Guest b = s.guests.get(other).copy();
        move(s, other, a.x, a.y);
        move(s, one, b.x, b.y);
    }

    boolean change(int one, int other) {
        if (one == other || !s.here(one) || !s.here(other)) {
            return false;
        }
        swap(s, one, other);
        return true;
    }

    int warms(int guest, int n) {
        if (guest < 0 || guest >= s.guests.size() || n < 0 || n > 99) {
            return -1;
        }
        int was = s.guests.get(guest).warm;
        s.guests.get(guest).warm = n;
        return was;
    }

    boolean no(int law, int n, int least, int most) {
        return s.columns == 0 || law < 0 || law >= rules.size() || n < least || n > most;
    }

    int tick(int law, int n) {
        if (no(law, n, 1, 120) || s.now + n > 9999) {
            return -1;
        }
        s = s.ahead(rules.get(law), n);
        return s.now;
    }

    int there(int law, int n, int what) {
        return no(law, n, 0, 60) || what < 0 || what > 1 ? -1 : s.ahead(rules.get(law), n).spot[what];
    }

    int deaf(int law, int n, int guest) {
        if (no(law, n, 0, 60) || guest < 0 || guest >= s.guests.size()) {
            return -1;
        }
        return s.ahead(rules.get(law), n).guests.get(guest).deaf - s.guests.get(guest).deaf;
    }

    int critic(int law, int n, int what) {
        if (no(law, n, 0, 60) || what < 0 || what > 1) {
            return -1;
        }
        int who = -2;
        int most = -2;
        for (int g = s.guests.size() - 1; g >= 0; g--) {
            if (deaf(law, n, g) >= most) {
                most = deaf(law, n, g);
                who = g;
            }
        }
        return what == 0 ? who : most;
    }

    static boolean endsOn(State start, Rule rule, int n, int guest) {
        State end = start.ahead(rule, n);
        return end.on(end.spot[0], end.spot[1]) == guest;
    }

    int seated(int law, int n, int on, int what) {
        if (no(law, n, 0, 30) || !s.here(on) || what < 0 || what > 2) {
            return -1;
        }
        for (int g = 0; g < s.guests.size(); g++) {
            for (int y = 0; y < s.rows; y++) {
                for (int x = 0; x < s.columns; x++) {
                    if (s.here(g) && s.on(x, y) < 0) {
                        State other = s.copy();
                        move(other, g, x, y);
                        if (endsOn(other, rules.get(law), n, on)) {
                            return new int[] {g, x, y}[what];
                        }
                    }
                }
            }
        }
        return -2;
    }

    int changed(int law, int n, int on) {
        if (no(law, n, 0, 30) || !s.here(on)) {
            return -1;
        }
        for (int a = 0; a < s.guests.size(); a++) {
            for (int b = a + 1; b < s.guests.size(); b++) {
                if (s.here(a) && s.here(b)) {
                    State other = s.copy();
                    swap(other, a, b);
                    if (endsOn(other, rules.get(law), n, on)) {
                        return 16 * a + b;
                    }
                }
            }
        }
        return -2;
    }

    int without(int law, int n, int guest) {
        if (no(law, n, 0, 60) || !s.here(guest)) {
            return -1;
        }
        State other = s.copy();
        other.guests.get(guest).away = true;
        int[] a = other.ahead(rules.get(law), n).spot;
        int[] b = s.ahead(rules.get(law), n).spot;
        return Math.abs(a[0] - b[0]) + Math.abs(a[1] - b[1]);
    }

    int baron(int law, int n, int what) {
        if (no(law, n, 0, 60) || what < 0 || what > 1) {
            return -1;
        }
        int who = -2;
        for (int g = 0; g < s.guests.size(); g++) {
            if (s.here(g) && (who == -2 || without(law, n, g) > without(law, n, who))) {
                who = g;
            }
        }
        return what == 0 || who == -2 ? who : without(law, n, who);
    }

    int led(int law, int n) {
        if (no(law, n, 0, 60)) {
            return -1;
        }
        int bits = 0;
        for (int g = 0; g < s.guests.size(); g++) {
            if (without(law, n, g) > 0) {
                bits += 1 << g;
            }
        }
        return bits;
    }

    int fanned(int law, int n, int x, int y, int what) {
        if (no(law, n, 0, 10) || !s.in(x, y) || what < 0 || what > 3) {
            return -1;
        }
        for (int strength = 1; strength <= 9; strength++) {
            for (int b = 0; b < s.rows; b++) {
                for (int a = 0; a < s.columns; a++) {
                    for (int way = 1; way <= 4; way++) {
                        State other = s.copy();
                        other.fans.add(new int[] {a, b, way, strength});
                        int[] spot = other.ahead(rules.get(law), n).spot;
                        if (spot[0] == x && spot[1] == y) {
                            return new int[] {strength, a, b, way}[what];
                        }
                    }
                }
            }
        }
        return -2;
    }

    int span(int law, int n, int guest, int d, int what) {
        if (no(law, n, 0, 60) || !s.here(guest) || d < 0 || d > 20 || what < 0 || what > 4) {
            return -1;
        }
        java.util.TreeSet<Integer> xs = new java.util.TreeSet<>();
        java.util.TreeSet<Integer> ys = new java.util.TreeSet<>();
        java.util.TreeSet<Integer> all = new java.util.TreeSet<>();
        for (int less = -d; less <= d; less++) {
            int warm = s.guests.get(guest).warm + less;
            if (warm >= 0 && warm <= 99) {
                State other = s.copy();
                other.guests.get(guest).warm = warm;
                int[] spot = other.ahead(rules.get(law), n).spot;
                xs.add(spot[0]);
                ys.add(spot[1]);
                all.add(100 * spot[0] + spot[1]);
            }
        }
        return new int[] {xs.first(), xs.last(), ys.first(), ys.last(), all.size()}[what];
    }

    int spy(int law, int n, int hear, int not, int what) {
        int sets = 1 << s.guests.size();
        if (no(law, n, 0, 30) || hear < 0 || not < 0 || hear >= sets || not >= sets || (hear & not) != 0 || what < 0 || what > 2) {
            return -1;
        }
        for (int minute = 1; minute <= n; minute++) {
            State then = s.ahead(rules.get(law), minute);
            for (int y = 0; y < s.rows; y++) {
                for (int x = 0; x < s.columns; x++) {
                    boolean good = s.on(x, y) < 0;
                    for (int g = 0; g < s.guests.size() && good; g++) {
                        Guest one = then.guests.get(g);
                        boolean deaf = one.x == then.spot[0] && one.y == then.spot[1];
                        boolean hears = !one.away && !deaf && Math.abs(one.x - x) < 3 && Math.abs(one.y - y) < 3;
                        if ((hear >> g & 1) == 1 && !hears || (not >> g & 1) == 1 && hears) {
                            good = false;
                        }
                    }
                    if (good) {
                        return new int[] {minute, x, y}[what];
                    }
                }
            }
        }
        return -2;
    }

    int seed(int x) {
        if (x < 0) {
            return -1;
        }
        int was = (int) s.x;
        s.x = x;
        return was;
    }

    int evenings(int law, int m, int n, int guest, int what) {
        if (no(law, n, 1, 30) || m < 1 || m > 10 || guest < 0 || guest >= s.guests.size() || what < 0 || what > 2) {
            return -1;
        }
        int[] sums = new int[3];
        BigInteger x = BigInteger.valueOf(s.x);
        for (int i = 0; i < m; i++) {
            State other = s.copy();
            for (Guest g : other.guests) {
                if (!g.away) {
                    x = x.multiply(BigInteger.valueOf(1103515245)).add(BigInteger.valueOf(12345)).mod(BigInteger.valueOf(2147483648L));
                    g.warm = x.intValue() / 65536 % 100;
                }
            }
            State end = other.ahead(rules.get(law), n);
            sums[0] += end.on(end.spot[0], end.spot[1]) == guest ? 1 : 0;
            sums[1] += end.guests.get(guest).deaf - s.guests.get(guest).deaf;
            sums[2] += end.out - s.out;
        }
        return sums[what];
    }

    int minutesKept() {
        return Math.min(120, s.now);
    }

    int log(int ago, int what) {
        return ago < 1 || ago > minutesKept() || what < 0 || what > 1 ? -1 : s.path.get(s.path.size() - ago)[what];
    }

    int hushed(int x, int y) {
        if (!s.in(x, y)) {
            return -1;
        }
        int times = 0;
        for (int ago = 1; ago <= minutesKept(); ago++) {
            times += log(ago, 0) == x && log(ago, 1) == y ? 1 : 0;
        }
        return times;
    }

    int count(int what) {
        boolean none = s.columns == 0;
        int heat = 0;
        for (int[] column : s.heat) {
            for (int h : column) {
                heat += h;
            }
        }
        int[] all = {s.columns, s.rows, s.guests.size(), s.fans.size(), s.snows.size(), rules.size(), s.now,
            none ? -1 : s.spot[0], none ? -1 : s.spot[1], heat, s.out, s.melted, s.given, (int) s.x, tape.length(),
            minutesKept(), s.told};
        return what < 0 || what >= all.length ? -1 : all[what];
    }

    int image(int k) {
        if (k < 0 || k > 3) {
            return -1;
        }
        images[k] = s.copy();
        return s.now;
    }

    int back(int k) {
        if (k < 0 || k > 3 || images[k] == null) {
            return -1;
        }
        s = images[k].copy();
        return s.now;
    }
}
