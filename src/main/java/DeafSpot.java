import java.util.Arrays;

/** A hall under a dome with a deaf spot that wanders by the heat; what it promises stands in the document. */
public final class DeafSpot {
    public static final int NONE = -1;

    /** The answer where a call is in order but what it looks for isn't there. */
    private static final int NOTHING = -2;
    private static final int MOST_LAWS = 6;
    private static final int MOST_IMAGES = 4;
    private static final int LAST_MINUTE = 9999;

    private final Tape tape = new Tape();
    private final Law[] laws = new Law[MOST_LAWS];
    private int lawNumber = 0;
    private final Evening present = new Evening();
    private final Evening draft = new Evening();
    private final Evening trial = new Evening();
    private final Evening[] images = new Evening[MOST_IMAGES];
    private final HallReader hallReader = new HallReader(tape, draft);
    private final LawReader lawReader = new LawReader(tape);
    private final Found found = new Found();
    private final int[] seen = new int[Room.MOST_SEATS];

    public DeafSpot() {
    }

    public int feed(int a, int b, int c, int d, int e) {
        return tape.add(a, b, c, d, e);
    }

    public int end(int n) {
        return tape.cut(n);
    }

    public int hall() {
        hallReader.read();
        tape.empty();
        if (tape.failed()) {
            return NOTHING - tape.fault;
        }
        found.forget();
        draft.draws = present.draws;
        present.copy(draft);
        return present.guests.number;
    }

    public int law() {
        if (lawNumber >= MOST_LAWS) {
            return NONE;
        }
        Law rule = lawReader.read();
        tape.empty();
        if (rule == null) {
            return NOTHING - tape.fault;
        }
        laws[lawNumber] = rule;
        lawNumber++;
        return lawNumber - 1;
    }

    public int seat(int x, int y, int what) {
        int place = present.room.seatAt(x, y);
        if (place == NONE) {
            return NONE;
        }
        switch (what) {
            case 0: return present.heat[place];
            case 1: return present.guests.sitters[place];
            case 2: return present.spot == place ? 1 : 0;
            case 3: return present.room.edges[place];
            default: return NONE;
        }
    }

    public int guest(int guest, int what) {
        Guests guests = present.guests;
        if (!guests.known(guest)) {
            return NONE;
        }
        switch (what) {
            case 0: return present.room.columnOf(guests.seats[guest]);
            case 1: return present.room.rowOf(guests.seats[guest]);
            case 2: return guests.warmth[guest];
            case 3: return guests.sorts[guest];
            case 4: return guests.deafness[guest];
            default: return NONE;
        }
    }

    public int fan(int fan, int what) {
        Room room = present.room;
        if (fan < 0 || fan >= room.fans) {
            return NONE;
        }
        switch (what) {
            case 0: return room.columnOf(room.fanSeats[fan]);
            case 1: return room.rowOf(room.fanSeats[fan]);
            case 2: return room.fanWays[fan];
            case 3: return room.fanStrengths[fan];
            default: return NONE;
        }
    }

    public boolean sits(int guest, int x, int y) {
        int place = present.room.seatAt(x, y);
        if (!present.guests.known(guest) || place == NONE || present.guests.sitters[place] != NONE) {
            return false;
        }
        found.forget();
        present.guests.put(guest, place);
        return true;
    }

    public boolean goes(int guest) {
        if (!present.guests.here(guest)) {
            return false;
        }
        found.forget();
        present.guests.leave(guest);
        return true;
    }

    public boolean change(int one, int other) {
        Guests guests = present.guests;
        if (one == other || !guests.here(one) || !guests.here(other)) {
            return false;
        }
        found.forget();
        guests.swap(one, other);
        return true;
    }

    public int warms(int guest, int n) {
        if (!present.guests.known(guest) || n < 0 || n > Guests.MOST_WARMTH) {
            return NONE;
        }
        found.forget();
        int was = present.guests.warmth[guest];
        present.guests.warmth[guest] = n;
        return was;
    }

    public int tick(int law, int n) {
        Law rule = ruleFor(law, n, 1, 120);
        if (rule == null || present.now + n > LAST_MINUTE) {
            return NONE;
        }
        found.forget();
        present.pass(rule, n);
        return present.now;
    }

    public int there(int law, int n, int what) {
        Law rule = ruleFor(law, n, 0, 60);
        if (rule == null || what < 0 || what > 1) {
            return NONE;
        }
        int place = spotAhead(rule, n);
        return what == 0 ? present.room.columnOf(place) : present.room.rowOf(place);
    }

    public int deaf(int law, int n, int guest) {
        Law rule = ruleFor(law, n, 0, 60);
        if (rule == null || !present.guests.known(guest)) {
            return NONE;
        }
        spotAhead(rule, n);
        return deafMinutes(guest);
    }

    public int critic(int law, int n, int what) {
        Law rule = ruleFor(law, n, 0, 60);
        if (rule == null || what < 0 || what > 1) {
            return NONE;
        }
        if (present.guests.number == 0) {
            return NOTHING;
        }
        spotAhead(rule, n);
        int who = 0;
        for (int guest = 1; guest < present.guests.number; guest++) {
            if (deafMinutes(guest) > deafMinutes(who)) {
                who = guest;
            }
        }
        return what == 0 ? who : deafMinutes(who);
    }

    public int seated(int law, int n, int on, int what) {
        Law rule = ruleFor(law, n, 0, 30);
        if (rule == null || !present.guests.here(on) || what < 0 || what > 2) {
            return NONE;
        }
        if (!found.answers(Found.SEATED, law, n, on, 0)) {
            found.begin(Found.SEATED, law, n, on, 0);
            seekSeat(rule, n, on);
        }
        return found.part(what);
    }

    public int changed(int law, int n, int on) {
        Law rule = ruleFor(law, n, 0, 30);
        Guests guests = present.guests;
        if (rule == null || !guests.here(on)) {
            return NONE;
        }
        trial.copy(present);
        for (int one = 0; one < guests.number; one++) {
            for (int other = one + 1; other < guests.number; other++) {
                if (guests.here(one) && guests.here(other)) {
                    trial.rewind(present);
                    trial.guests.swap(one, other);
                    if (trial.endsOn(rule, n, trial.guests.seats[on])) {
                        return 16 * one + other;
                    }
                }
            }
        }
        return NOTHING;
    }

    public int without(int law, int n, int guest) {
        Law rule = ruleFor(law, n, 0, 60);
        if (rule == null || !present.guests.here(guest)) {
            return NONE;
        }
        return stepsWithout(rule, n, guest, spotAhead(rule, n));
    }

    public int baron(int law, int n, int what) {
        Law rule = ruleFor(law, n, 0, 60);
        if (rule == null || what < 0 || what > 1) {
            return NONE;
        }
        int with = spotAhead(rule, n);
        int who = NOTHING;
        int farthest = NOTHING;
        for (int guest = 0; guest < present.guests.number; guest++) {
            if (present.guests.here(guest)) {
                int steps = stepsWithout(rule, n, guest, with);
                if (steps > farthest) {
                    farthest = steps;
                    who = guest;
                }
            }
        }
        return what == 0 ? who : farthest;
    }

    public int led(int law, int n) {
        Law rule = ruleFor(law, n, 0, 60);
        if (rule == null) {
            return NONE;
        }
        int with = spotAhead(rule, n);
        int bits = 0;
        for (int guest = 0; guest < present.guests.number; guest++) {
            if (present.guests.here(guest) && stepsWithout(rule, n, guest, with) > 0) {
                bits |= 1 << guest;
            }
        }
        return bits;
    }

    public int fanned(int law, int n, int x, int y, int what) {
        Law rule = ruleFor(law, n, 0, 10);
        int place = present.room.seatAt(x, y);
        if (rule == null || place == NONE || what < 0 || what > 3) {
            return NONE;
        }
        if (!found.answers(Found.FANNED, law, n, place, 0)) {
            found.begin(Found.FANNED, law, n, place, 0);
            seekFan(rule, n, place);
        }
        return found.part(what);
    }

    public int span(int law, int n, int guest, int d, int what) {
        Law rule = ruleFor(law, n, 0, 60);
        if (rule == null || !present.guests.here(guest) || d < 0 || d > 20 || what < 0 || what > 4) {
            return NONE;
        }
        if (!found.answers(Found.SPAN, law, n, guest, d)) {
            found.begin(Found.SPAN, law, n, guest, d);
            markSpan(rule, n, guest, d);
            found.keepSpan(present.room, seen);
        }
        return found.part(what);
    }

    public int spy(int law, int n, int hear, int not, int what) {
        Law rule = ruleFor(law, n, 0, 30);
        Guests guests = present.guests;
        if (rule == null || !guests.isSet(hear) || !guests.isSet(not) || (hear & not) != 0 || what < 0 || what > 2) {
            return NONE;
        }
        trial.copy(present);
        for (int minute = 1; minute <= n; minute++) {
            trial.minute(rule);
            for (int place = 0; place < present.room.seats; place++) {
                if (guests.sitters[place] == NONE && isHeardAs(place, hear, not)) {
                    return what == 0 ? minute : what == 1 ? present.room.columnOf(place) : present.room.rowOf(place);
                }
            }
        }
        return NOTHING;
    }

    public int seed(int x) {
        if (x < 0) {
            return NONE;
        }
        int was = present.draws;
        present.draws = x;
        return was;
    }

    public int evenings(int law, int m, int n, int guest, int what) {
        Law rule = ruleFor(law, n, 1, 30);
        if (rule == null || m < 1 || m > 10 || !present.guests.known(guest) || what < 0 || what > 2) {
            return NONE;
        }
        int ends = 0;
        int minutes = 0;
        int lost = 0;
        trial.copy(present);
        for (int i = 0; i < m; i++) {
            trial.rewind(present);
            trial.drawWarmth();
            trial.pass(rule, n);
            if (trial.guests.sitters[trial.spot] == guest) {
                ends++;
            }
            minutes += deafMinutes(guest);
            lost += trial.out - present.out;
        }
        return what == 0 ? ends : what == 1 ? minutes : lost;
    }

    public int log(int ago, int what) {
        if (ago < 1 || ago > present.logged() || what < 0 || what > 1) {
            return NONE;
        }
        int place = present.spotAgo(ago);
        return what == 0 ? present.room.columnOf(place) : present.room.rowOf(place);
    }

    public int hushed(int x, int y) {
        int place = present.room.seatAt(x, y);
        if (place == NONE) {
            return NONE;
        }
        int times = 0;
        for (int ago = 1; ago <= present.logged(); ago++) {
            if (present.spotAgo(ago) == place) {
                times++;
            }
        }
        return times;
    }

    public int count(int what) {
        switch (what) {
            case 0: return present.room.columns;
            case 1: return present.room.rows;
            case 2: return present.guests.number;
            case 3: return present.room.fans;
            case 4: return present.room.snows;
            case 5: return lawNumber;
            case 6: return present.now;
            case 7: return present.room.columnOf(present.spot);
            case 8: return present.room.rowOf(present.spot);
            case 9: return present.allHeat();
            case 10: return present.out;
            case 11: return present.melted;
            case 12: return present.given;
            case 13: return present.draws;
            case 14: return tape.length;
            case 15: return present.logged();
            case 16: return present.room.told;
            default: return NONE;
        }
    }

    public int image(int k) {
        if (k < 0 || k >= MOST_IMAGES) {
            return NONE;
        }
        Evening image = images[k];
        if (image == null) {
            image = new Evening();
            images[k] = image;
        }
        image.copy(present);
        return present.now;
    }

    public int back(int k) {
        if (k < 0 || k >= MOST_IMAGES) {
            return NONE;
        }
        Evening image = images[k];
        if (image == null) {
            return NONE;
        }
        found.forget();
        present.copy(image);
        return present.now;
    }

    /** The law of a number; null without a hall, without that law, or with n beyond its bounds. */
    private Law ruleFor(int law, int n, int least, int most) {
        if (present.room.seats == 0 || law < 0 || law >= lawNumber || n < least || n > most) {
            return null;
        }
        return laws[law];
    }

    /** Leaves the trial n minutes ahead of the present. */
    private int spotAhead(Law rule, int n) {
        trial.copy(present);
        trial.pass(rule, n);
        return trial.spot;
    }

    private int deafMinutes(int guest) {
        return trial.guests.deafness[guest] - present.guests.deafness[guest];
    }

    /** How far the spot would be from a seat without a guest; the trial has the present's room already. */
    private int stepsWithout(Law rule, int n, int guest, int from) {
        trial.rewind(present);
        trial.guests.leave(guest);
        trial.pass(rule, n);
        return present.room.steps(trial.spot, from);
    }

    private void seekSeat(Law rule, int n, int on) {
        Guests guests = present.guests;
        trial.copy(present);
        for (int guest = 0; guest < guests.number; guest++) {
            for (int place = 0; place < present.room.seats; place++) {
                if (guests.here(guest) && guests.sitters[place] == NONE) {
                    trial.rewind(present);
                    trial.guests.put(guest, place);
                    if (trial.endsOn(rule, n, trial.guests.seats[on])) {
                        found.keep(guest, present.room.columnOf(place), present.room.rowOf(place), 0);
                        return;
                    }
                }
            }
        }
    }

    private void seekFan(Law rule, int n, int target) {
        Room room = present.room;
        trial.copy(present);
        for (int strength = 1; strength <= 9; strength++) {
            for (int place = 0; place < room.seats; place++) {
                for (int way = 1; way < Room.WAYS; way++) {
                    trial.rewind(present);
                    trial.room.fans = room.fans;
                    trial.room.addFan(place, way, strength);
                    if (trial.endsOn(rule, n, target)) {
                        found.keep(strength, room.columnOf(place), room.rowOf(place), way);
                        return;
                    }
                }
            }
        }
    }

    private void markSpan(Law rule, int n, int guest, int d) {
        Arrays.fill(seen, 0);
        int warmth = present.guests.warmth[guest];
        int most = Math.min(Guests.MOST_WARMTH, warmth + d);
        trial.copy(present);
        for (int other = Math.max(0, warmth - d); other <= most; other++) {
            trial.rewind(present);
            trial.guests.warmth[guest] = other;
            trial.pass(rule, n);
            seen[trial.spot] = 1;
        }
    }

    /** Whether all of one set, and nobody of another one, hear a phrase sung on a seat of the trial. */
    private boolean isHeardAs(int place, int hear, int not) {
        int heard = 0;
        for (int guest = 0; guest < trial.guests.number; guest++) {
            int chair = trial.guests.seats[guest];
            if (chair >= 0 && chair != trial.spot && trial.room.isWithinTwo(chair, place)) {
                heard |= 1 << guest;
            }
        }
        return (heard & hear) == hear && (heard & not) == 0;
    }

    /** The last search: its parts are asked for one by one, and each search may be long. */
    private static final class Found {
        static final int SEATED = 1;
        static final int FANNED = 2;
        static final int SPAN = 3;
        private static final int PARTS = 5;

        private int kind = NONE;
        private int law = 0;
        private int minutes = 0;
        private int first = 0;
        private int second = 0;
        private boolean any = false;
        private final int[] parts = new int[PARTS];

        boolean answers(int askedKind, int askedLaw, int askedMinutes, int askedFirst, int askedSecond) {
            return kind == askedKind && law == askedLaw && minutes == askedMinutes
                && first == askedFirst && second == askedSecond;
        }

        void begin(int newKind, int newLaw, int newMinutes, int newFirst, int newSecond) {
            kind = newKind;
            law = newLaw;
            minutes = newMinutes;
            first = newFirst;
            second = newSecond;
            any = false;
        }

        void forget() {
            kind = NONE;
        }

        void keep(int a, int b, int c, int d) {
            parts[0] = a;
            parts[1] = b;
            parts[2] = c;
            parts[3] = d;
            parts[4] = 0;
            any = true;
        }

        void keepSpan(Room room, int[] marks) {
            keep(room.columns, NONE, room.rows, NONE);
            for (int place = 0; place < room.seats && place < marks.length; place++) {
                if (marks[place] == 1) {
                    parts[0] = Math.min(parts[0], room.xs[place]);
                    parts[1] = Math.max(parts[1], room.xs[place]);
                    parts[2] = Math.min(parts[2], room.ys[place]);
                    parts[3] = Math.max(parts[3], room.ys[place]);
                    parts[4]++;
                }
            }
        }

        int part(int what) {
            return any && what >= 0 && what < PARTS ? parts[what] : NOTHING;
        }
    }

    /** The bytes fed, how far they are read, and the first fault met on the way. */
    private static final class Tape {
        static final int MOST = 400;
        static final int WRONG = 0;
        static final int NUMBER = 1;
        static final int TOO_DEEP = 2;
        static final int ONE_MORE = 3;
        static final int CLAUSE = 4;
        static final int TAKEN = 5;
        private static final int FED = 20;
        private static final int DIGITS = 5;

        private final int[] bytes = new int[MOST];
        private int length = 0;
        private int at = 0;
        private int fault = 0;

        int add(int a, int b, int c, int d, int e) {
            if (length + FED > MOST) {
                return NONE;
            }
            addBytes(a);
            addBytes(b);
            addBytes(c);
            addBytes(d);
            addBytes(e);
            return length;
        }

        private void addBytes(int number) {
            for (int shift = 24; shift >= 0; shift -= 8) {
                if (length < MOST) {
                    bytes[length] = (number >>> shift) & 255;
                    length++;
                }
            }
        }

        int cut(int n) {
            if (n < 0 || n > length) {
                return NONE;
            }
            length = n;
            return n;
        }

        void empty() {
            length = 0;
        }

        void start() {
            at = 0;
            fault = 0;
        }

        boolean failed() {
            return fault != 0;
        }

        void fail(int kind, int place) {
            if (fault == 0) {
                fault = 1 + 8 * place + kind;
            }
        }

        /** The next byte that is no blank, where the reading then stands; NONE at the end. */
        int next() {
            while (at < length && bytes[at] == ' ') {
                at++;
            }
            return at < length ? bytes[at] : NONE;
        }

        /** Whether the very next byte is this one, which is then read. */
        boolean takes(int sign) {
            if (at < length && bytes[at] == sign) {
                at++;
                return true;
            }
            return false;
        }

        int number(int least, int most) {
            next();
            int place = at;
            int value = 0;
            while (at < length && bytes[at] >= '0' && bytes[at] <= '9') {
                // further digits are a fault anyway, and would go beyond an int
                if (at - place < DIGITS) {
                    value = value * 10 + bytes[at] - '0';
                }
                at++;
            }
            if (at == place) {
                fail(WRONG, place);
            } else if (at - place > DIGITS || value < least || value > most) {
                fail(NUMBER, place);
            }
            return value;
        }

        /** Which of some words, told with blanks between, stands next; NONE if it is none of them. */
        int wordOf(String words) {
            next();
            int size = letters();
            int from = 0;
            int which = 0;
            for (int i = 0; i <= words.length(); i++) {
                if (i == words.length() || words.charAt(i) == ' ') {
                    if (i - from == size && isNext(words, from, size)) {
                        return which;
                    }
                    from = i + 1;
                    which++;
                }
            }
            return NONE;
        }

        boolean takesWord(String word) {
            if (wordOf(word) == NONE) {
                return false;
            }
            skipWord();
            return true;
        }

        void skipWord() {
            at += letters();
        }

        private int letters() {
            int size = 0;
            while (at + size < length && bytes[at + size] >= 'a' && bytes[at + size] <= 'z') {
                size++;
            }
            return size;
        }

        private boolean isNext(String words, int from, int size) {
            for (int i = 0; i < size; i++) {
                if (from + i >= words.length() || at + i >= length || words.charAt(from + i) != bytes[at + i]) {
                    return false;
                }
            }
            return true;
        }

        /** Which of some signs stands next, and reads it; NONE if it is none of them. */
        int takesOneOf(String signs) {
            int sign = next();
            for (int i = 0; i < signs.length(); i++) {
                if (sign == signs.charAt(i)) {
                    at++;
                    return i;
                }
            }
            return NONE;
        }

        /** Behind a clause: whether another one is told. */
        boolean goesOn() {
            if (failed() || next() == NONE) {
                return false;
            }
            if (takes(';')) {
                return true;
            }
            fail(WRONG, at);
            return false;
        }
    }

    /** Reads a hall from the tape into a draft, which counts only if the tape has no fault. */
    private static final class HallReader {
        private static final String WORDS = "hall guest fan snow spot warm";
        private static final int HALL = 0;
        private static final int GUEST = 1;
        private static final int FAN = 2;
        private static final int SNOW = 3;
        private static final int SPOT = 4;
        private static final int MOST_CLAUSES = 32;

        private final Tape tape;
        private final Evening draft;
        private boolean spotTold = false;

        HallReader(Tape tape, Evening draft) {
            this.tape = tape;
            this.draft = draft;
        }

        void read() {
            tape.start();
            draft.clear();
            spotTold = false;
            boolean more = true;
            for (int i = 0; more && i <= MOST_CLAUSES; i++) {
                readClause(i);
                more = tape.goesOn();
            }
            draft.room.told = draft.allHeat();
        }

        private void readClause(int clause) {
            int kind = tape.wordOf(WORDS);
            if (kind == NONE) {
                tape.fail(Tape.WRONG, tape.at);
                return;
            }
            if (clause >= MOST_CLAUSES || (kind == HALL) != (clause == 0) || isFull(kind)) {
                tape.fail(Tape.CLAUSE, tape.at);
                return;
            }
            tape.skipWord();
            switch (kind) {
                case HALL: readSize(); break;
                case GUEST: readGuest(); break;
                case FAN: readFan(); break;
                case SNOW: readSnow(); break;
                case SPOT: readSpot(); break;
                default: readHeat(); break;
            }
        }

        private boolean isFull(int kind) {
            switch (kind) {
                case GUEST: return draft.guests.number >= Guests.MOST;
                case FAN: return draft.room.fans >= Room.MOST_FANS;
                case SNOW: return draft.room.snows >= Room.MOST_SNOWS;
                case SPOT: return spotTold;
                default: return false;
            }
        }

        private void readSize() {
            int columns = tape.number(1, Room.MOST_COLUMNS);
            int rows = readNumber(1, Room.MOST_ROWS);
            if (!tape.failed()) {
                draft.room.layOut(columns, rows);
            }
        }

        private void readGuest() {
            tape.next();
            int place = tape.at;
            int seat = readSeat();
            if (seat != NONE && draft.guests.sitters[seat] != NONE) {
                tape.fail(Tape.TAKEN, place);
            }
            int warmth = readNumber(0, Guests.MOST_WARMTH);
            int sort = readNumber(0, 9);
            if (!tape.failed()) {
                draft.guests.add(seat, warmth, sort);
            }
        }

        private void readFan() {
            int seat = readSeat();
            int way = readNumber(1, Room.WAYS - 1);
            int strength = readNumber(1, 99);
            if (!tape.failed()) {
                draft.room.addFan(seat, way, strength);
            }
        }

        private void readSnow() {
            int seat = readSeat();
            int cold = readNumber(1, 99);
            if (!tape.failed()) {
                draft.room.addSnow(seat, cold);
            }
        }

        private void readSpot() {
            int seat = readSeat();
            if (seat != NONE) {
                draft.spot = seat;
            }
            spotTold = true;
        }

        private void readHeat() {
            int seat = readSeat();
            int heat = readNumber(0, 9999);
            if (!tape.failed() && seat != NONE) {
                draft.heat[seat] = heat;
            }
        }

        /** NONE with a fault. */
        private int readSeat() {
            int x = readNumber(0, draft.room.columns - 1);
            int y = readNumber(0, draft.room.rows - 1);
            return tape.failed() ? NONE : draft.room.seatAt(x, y);
        }

        /** Behind a fault nothing is read: the first one counts. */
        private int readNumber(int least, int most) {
            return tape.failed() ? NONE : tape.number(least, most);
        }
    }

    /** Reads a law from the tape into code in which operands stand ahead of what joins them. */
    private static final class LawReader {
        private static final int MOST_CLAUSES = 12;
        private static final int DEEPEST = 10;
        private static final int MOST_COUNTED = 60;
        private static final int MOST_NUMBER = 99999;

        private final Tape tape;
        private final int[] code = new int[Tape.MOST];
        private int size = 0;
        private int counted = 0;
        private final int[] tests = new int[MOST_CLAUSES];
        private final int[] ends = new int[MOST_CLAUSES];

        LawReader(Tape tape) {
            this.tape = tape;
        }

        /** Null with a fault. */
        Law read() {
            tape.start();
            size = 0;
            counted = 0;
            int clauses = 0;
            boolean more = true;
            for (int i = 0; more && i <= MOST_CLAUSES; i++) {
                if (tape.wordOf("go") == NONE) {
                    tape.fail(Tape.WRONG, tape.at);
                } else if (i >= MOST_CLAUSES) {
                    tape.fail(Tape.CLAUSE, tape.at);
                } else {
                    tape.skipWord();
                    readSum();
                    tests[i] = size;
                    if (!tape.failed() && tape.takesWord("if")) {
                        readTest(0);
                    }
                    ends[i] = size;
                    clauses = i + 1;
                }
                more = tape.goesOn();
            }
            if (tape.failed()) {
                return null;
            }
            return new Law(Arrays.copyOf(code, size), Arrays.copyOf(tests, clauses), Arrays.copyOf(ends, clauses));
        }

        /** An or waits until the parts behind it are read, as and binds closer. */
        private void readTest(int depth) {
            boolean waits = false;
            readFact(depth);
            for (int i = 0; i < Tape.MOST && !tape.failed(); i++) {
                if (tape.takesWord("and")) {
                    readFact(depth);
                    emit(Law.AND);
                } else if (tape.takesWord("or")) {
                    if (waits) {
                        emit(Law.OR);
                    }
                    waits = true;
                    readFact(depth);
                } else {
                    break;
                }
            }
            if (waits) {
                emit(Law.OR);
            }
        }

        private void readFact(int depth) {
            boolean opens = tape.next() == '[';
            boolean negates = tape.wordOf("not") != NONE;
            if (!opens && !negates) {
                readSum();
                int sign = readSign();
                readSum();
                emit(sign);
            } else if (depth >= DEEPEST) {
                tape.fail(Tape.TOO_DEEP, tape.at);
            } else if (negates) {
                tape.skipWord();
                readFact(depth + 1);
                emit(Law.NOT);
            } else {
                tape.takes('[');
                readTest(depth + 1);
                if (!tape.failed() && tape.takesOneOf("]") == NONE) {
                    tape.fail(Tape.WRONG, tape.at);
                }
            }
        }

        private int readSign() {
            if (tape.failed()) {
                return NONE;
            }
            tape.next();
            int place = tape.at;
            int sign = tape.takesOneOf("<=>");
            if (sign == NONE) {
                tape.fail(Tape.WRONG, place);
            }
            countAt(place);
            if (sign == 1) {
                return Law.SAME;
            }
            boolean orSame = tape.takes('=');
            if (sign == 0) {
                return orSame ? Law.AT_MOST : Law.LESS;
            }
            return orSame ? Law.AT_LEAST : Law.MORE;
        }

        /** A + or - waits until the term behind it is read, as * / and % bind closer. */
        private void readSum() {
            if (tape.failed()) {
                return;
            }
            int waits = NONE;
            readValue();
            for (int i = 0; i < Tape.MOST && !tape.failed(); i++) {
                int sign = tape.takesOneOf("+-*/%");
                if (sign == NONE) {
                    break;
                }
                if (sign > 1) {
                    readValue();
                    emit(Law.PLUS - sign);
                } else {
                    if (waits != NONE) {
                        emit(Law.PLUS - waits);
                    }
                    waits = sign;
                    readValue();
                }
            }
            if (waits != NONE) {
                emit(Law.PLUS - waits);
            }
        }

        private void readValue() {
            int first = tape.next();
            int place = tape.at;
            int value = 0;
            if (first >= 'a' && first <= 'z') {
                int word = tape.wordOf(Law.WORDS);
                if (word == NONE) {
                    tape.fail(Tape.WRONG, place);
                }
                tape.skipWord();
                value = Law.HEAT - word;
            } else {
                value = tape.number(0, MOST_NUMBER);
            }
            countAt(place);
            emit(value);
        }

        private void countAt(int place) {
            if (counted >= MOST_COUNTED) {
                tape.fail(Tape.ONE_MORE, place);
            }
            counted++;
        }

        /** Each element has bytes of its own on the tape, so that there is room for all. */
        private void emit(int element) {
            if (size < code.length) {
                code[size] = element;
                size++;
            }
        }
    }

    /** A law in code: numbers are themselves, words and what joins are below 0. */
    private static final class Law {
        static final String WORDS = "heat near guests x y minute way back edge";
        static final int HEAT = -1;
        static final int NEAR = -2;
        static final int GUESTS = -3;
        static final int X = -4;
        static final int Y = -5;
        static final int MINUTE = -6;
        static final int WAY = -7;
        static final int BACK = -8;
        static final int EDGE = -9;
        static final int PLUS = -10;
        static final int MINUS = -11;
        static final int TIMES = -12;
        static final int OVER = -13;
        static final int REST = -14;
        static final int LESS = -15;
        static final int AT_MOST = -16;
        static final int SAME = -17;
        static final int AT_LEAST = -18;
        static final int MORE = -19;
        static final int AND = -20;
        static final int OR = -21;
        static final int NOT = -22;
        /** Far more than ten levels of brackets can leave open at once. */
        private static final int STACK = 64;

        private final int[] code;
        private final int[] tests;
        private final int[] ends;
        private final long[] stack = new long[STACK];

        Law(int[] code, int[] tests, int[] ends) {
            this.code = code;
            this.tests = tests;
            this.ends = ends;
        }

        /** The sum of the first clause that holds for a seat. */
        long worth(Evening evening, int seat, int way) {
            int from = 0;
            for (int i = 0; i < tests.length && i < ends.length; i++) {
                if (tests[i] == ends[i] || reckon(tests[i], ends[i], evening, seat, way) != 0) {
                    return reckon(from, tests[i], evening, seat, way);
                }
                from = ends[i];
            }
            return 0;
        }

        private long reckon(int from, int to, Evening evening, int seat, int way) {
            int top = 0;
            for (int i = from; i < to && i < code.length; i++) {
                int element = code[i];
                if (element > PLUS) {
                    if (top < STACK) {
                        stack[top] = element >= 0 ? element : evening.wordOf(element, seat, way);
                        top++;
                    }
                } else if (element == NOT) {
                    if (top > 0) {
                        stack[top - 1] = 1 - stack[top - 1];
                    }
                } else if (top > 1) {
                    top--;
                    stack[top - 1] = join(element, stack[top - 1], stack[top]);
                }
            }
            return top > 0 ? stack[top - 1] : 0;
        }

        private static long join(int element, long a, long b) {
            switch (element) {
                case PLUS: return a + b;
                case MINUS: return a - b;
                case TIMES: return a * b;
                case OVER: return b == 0 ? 0 : a / b;
                case REST: return b == 0 ? 0 : a % b;
                case LESS: return a < b ? 1 : 0;
                case AT_MOST: return a <= b ? 1 : 0;
                case SAME: return a == b ? 1 : 0;
                case AT_LEAST: return a >= b ? 1 : 0;
                case MORE: return a > b ? 1 : 0;
                case AND: return a & b;
                default: return a | b;
            }
        }
    }

    /** What minutes don't change: the seats, numbered by rows, with fans and snows. */
    private static final class Room {
        static final int MOST_COLUMNS = 10;
        static final int MOST_ROWS = 8;
        static final int MOST_SEATS = 80;
        static final int MOST_FANS = 6;
        static final int MOST_SNOWS = 8;
        static final int WAYS = 5;

        private int columns = 0;
        private int rows = 0;
        private int seats = 0;
        private int told = 0;
        private final int[] xs = new int[MOST_SEATS];
        private final int[] ys = new int[MOST_SEATS];
        private final int[] edges = new int[MOST_SEATS];
        /** Of each seat the seat by each way; NONE beyond the hall. */
        private final int[] nexts = new int[MOST_SEATS * WAYS];
        private int fans = 0;
        // one more than a hall may have: the one that is looked for
        private final int[] fanSeats = new int[MOST_FANS + 1];
        private final int[] fanWays = new int[MOST_FANS + 1];
        private final int[] fanStrengths = new int[MOST_FANS + 1];
        private int snows = 0;
        private final int[] snowSeats = new int[MOST_SNOWS];
        private final int[] snowColds = new int[MOST_SNOWS];

        void clear() {
            columns = 0;
            rows = 0;
            seats = 0;
            told = 0;
            fans = 0;
            snows = 0;
        }

        void layOut(int newColumns, int newRows) {
            columns = newColumns;
            rows = newRows;
            for (int y = 0; y < rows; y++) {
                for (int x = 0; x < columns && seats < MOST_SEATS; x++) {
                    xs[seats] = x;
                    ys[seats] = y;
                    edges[seats] = Math.min(Math.min(x, columns - 1 - x), Math.min(y, rows - 1 - y));
                    nexts[seats * WAYS] = seats;
                    nexts[seats * WAYS + 1] = seatAt(x, y - 1);
                    nexts[seats * WAYS + 2] = seatAt(x + 1, y);
                    nexts[seats * WAYS + 3] = seatAt(x, y + 1);
                    nexts[seats * WAYS + 4] = seatAt(x - 1, y);
                    seats++;
                }
            }
        }

        int seatAt(int x, int y) {
            return x < 0 || x >= columns || y < 0 || y >= rows ? NONE : y * columns + x;
        }

        int columnOf(int seat) {
            return seat < 0 || seat >= seats ? NONE : xs[seat];
        }

        int rowOf(int seat) {
            return seat < 0 || seat >= seats ? NONE : ys[seat];
        }

        int steps(int one, int other) {
            return Math.abs(columnOf(one) - columnOf(other)) + Math.abs(rowOf(one) - rowOf(other));
        }

        boolean isWithinTwo(int one, int other) {
            return Math.abs(columnOf(one) - columnOf(other)) <= 2 && Math.abs(rowOf(one) - rowOf(other)) <= 2;
        }

        void addFan(int seat, int way, int strength) {
            if (fans < fanSeats.length) {
                fanSeats[fans] = seat;
                fanWays[fans] = way;
                fanStrengths[fans] = strength;
                fans++;
            }
        }

        void addSnow(int seat, int cold) {
            if (snows < MOST_SNOWS) {
                snowSeats[snows] = seat;
                snowColds[snows] = cold;
                snows++;
            }
        }

        void copy(Room other) {
            columns = other.columns;
            rows = other.rows;
            seats = other.seats;
            told = other.told;
            System.arraycopy(other.xs, 0, xs, 0, MOST_SEATS);
            System.arraycopy(other.ys, 0, ys, 0, MOST_SEATS);
            System.arraycopy(other.edges, 0, edges, 0, MOST_SEATS);
            System.arraycopy(other.nexts, 0, nexts, 0, MOST_SEATS * WAYS);
            fans = other.fans;
            System.arraycopy(other.fanSeats, 0, fanSeats, 0, MOST_FANS + 1);
            System.arraycopy(other.fanWays, 0, fanWays, 0, MOST_FANS + 1);
            System.arraycopy(other.fanStrengths, 0, fanStrengths, 0, MOST_FANS + 1);
            snows = other.snows;
            System.arraycopy(other.snowSeats, 0, snowSeats, 0, MOST_SNOWS);
            System.arraycopy(other.snowColds, 0, snowColds, 0, MOST_SNOWS);
        }
    }

    /** The guests: where they sit, NONE if away, and what is told and counted of each. */
    private static final class Guests {
        static final int MOST = 12;
        static final int MOST_WARMTH = 99;

        private int number = 0;
        private final int[] seats = new int[MOST];
        private final int[] warmth = new int[MOST];
        private final int[] sorts = new int[MOST];
        private final int[] deafness = new int[MOST];
        /** Who sits on each seat, so that nobody has to be looked for. */
        private final int[] sitters = new int[Room.MOST_SEATS];

        void clear() {
            number = 0;
            Arrays.fill(sitters, NONE);
        }

        void add(int seat, int warm, int sort) {
            if (number >= MOST) {
                return;
            }
            int guest = number;
            number++;
            seats[guest] = NONE;
            warmth[guest] = warm;
            sorts[guest] = sort;
            deafness[guest] = 0;
            put(guest, seat);
        }

        boolean known(int guest) {
            return guest >= 0 && guest < number;
        }

        boolean here(int guest) {
            return guest >= 0 && guest < number && seats[guest] != NONE;
        }

        boolean isSet(int bits) {
            return bits >= 0 && bits < 1 << number;
        }

        void put(int guest, int seat) {
            if (known(guest) && seat >= 0 && seat < Room.MOST_SEATS) {
                leave(guest);
                seats[guest] = seat;
                sitters[seat] = guest;
            }
        }

        void leave(int guest) {
            if (here(guest)) {
                sitters[seats[guest]] = NONE;
                seats[guest] = NONE;
            }
        }

        void swap(int one, int other) {
            if (here(one) && here(other)) {
                int seat = seats[one];
                int second = seats[other];
                leave(other);
                put(one, second);
                put(other, seat);
            }
        }

        void copy(Guests other) {
            number = other.number;
            System.arraycopy(other.seats, 0, seats, 0, MOST);
            System.arraycopy(other.warmth, 0, warmth, 0, MOST);
            System.arraycopy(other.sorts, 0, sorts, 0, MOST);
            System.arraycopy(other.deafness, 0, deafness, 0, MOST);
            System.arraycopy(other.sitters, 0, sitters, 0, Room.MOST_SEATS);
        }
    }

    /** All that an image holds: a room, its guests, the heat, the spot and what was counted. */
    private static final class Evening {
        private static final int LOG = 120;

        private final Room room = new Room();
        private final Guests guests = new Guests();
        private final int[] heat = new int[Room.MOST_SEATS];
        private final int[] gifts = new int[Room.MOST_SEATS];
        private int spot = NONE;
        /** Where the spot was ahead of the last minute. */
        private int before = NONE;
        private int now = 0;
        private int out = 0;
        private int melted = 0;
        private int given = 0;
        private int draws = 0;
        private final int[] log = new int[LOG];

        /** As it is ahead of the first clause of a hall: the spot is at 0 0 if it isn't told. */
        void clear() {
            room.clear();
            guests.clear();
            Arrays.fill(heat, 0);
            spot = 0;
            before = NONE;
            now = 0;
            out = 0;
            melted = 0;
            given = 0;
        }

        void copy(Evening other) {
            room.copy(other.room);
            System.arraycopy(other.log, 0, log, 0, LOG);
            draws = other.draws;
            rewind(other);
        }

        /** Takes over what minutes and hands change: enough in a trial; draws go on. */
        void rewind(Evening other) {
            guests.copy(other.guests);
            System.arraycopy(other.heat, 0, heat, 0, Room.MOST_SEATS);
            spot = other.spot;
            before = other.before;
            now = other.now;
            out = other.out;
            melted = other.melted;
            given = other.given;
        }

        void pass(Law rule, int minutes) {
            for (int i = 0; i < minutes; i++) {
                minute(rule);
            }
        }

        /** Whether the spot is on a seat behind some minutes; ends as soon as it can't get there any more. */
        boolean endsOn(Law rule, int minutes, int seat) {
            for (int left = minutes; left > 0; left--) {
                if (room.steps(spot, seat) > left) {
                    return false;
                }
                minute(rule);
            }
            return spot == seat;
        }

        void minute(Law rule) {
            if (spot < 0 || spot >= room.seats) {
                return;
            }
            warmUp();
            blow();
            melt();
            spread();
            wander(rule);
            log[now % LOG] = spot;
            now++;
            int who = guests.sitters[spot];
            if (who >= 0) {
                guests.deafness[who]++;
            }
        }

        private void warmUp() {
            for (int guest = 0; guest < guests.number; guest++) {
                int seat = guests.seats[guest];
                if (seat >= 0) {
                    heat[seat] += guests.warmth[guest];
                    given += guests.warmth[guest];
                }
            }
        }

        private void blow() {
            for (int fan = 0; fan < room.fans; fan++) {
                int seat = room.fanSeats[fan];
                int moved = Math.min(heat[seat], room.fanStrengths[fan]);
                int next = room.nexts[seat * Room.WAYS + room.fanWays[fan]];
                heat[seat] -= moved;
                if (next >= 0) {
                    heat[next] += moved;
                } else {
                    out += moved;
                }
            }
        }

        private void melt() {
            for (int snow = 0; snow < room.snows; snow++) {
                int seat = room.snowSeats[snow];
                int gone = Math.min(heat[seat], room.snowColds[snow]);
                heat[seat] -= gone;
                melted += gone;
            }
        }

        /** All gifts are measured ahead of the first one, as none may count what another one brings. */
        private void spread() {
            for (int seat = 0; seat < room.seats; seat++) {
                gifts[seat] = heat[seat] / 8;
            }
            for (int seat = 0; seat < room.seats; seat++) {
                int gift = gifts[seat];
                for (int way = 1; way < Room.WAYS && gift > 0; way++) {
                    int next = room.nexts[seat * Room.WAYS + way];
                    if (next >= 0) {
                        heat[seat] -= gift;
                        heat[next] += gift;
                    }
                }
            }
        }

        private void wander(Law rule) {
            int best = spot;
            long most = rule.worth(this, spot, 0);
            for (int way = 1; way < Room.WAYS; way++) {
                int next = room.nexts[spot * Room.WAYS + way];
                if (next >= 0) {
                    long worth = rule.worth(this, next, way);
                    if (worth > most) {
                        most = worth;
                        best = next;
                    }
                }
            }
            before = spot;
            spot = best;
        }

        /** What a law's word says of a seat to which the spot could go. */
        long wordOf(int word, int seat, int way) {
            if (seat < 0 || seat >= room.seats) {
                return 0;
            }
            switch (word) {
                case Law.HEAT: return heat[seat];
                case Law.NEAR: {
                    int near = 0;
                    for (int i = 1; i < Room.WAYS; i++) {
                        int next = room.nexts[seat * Room.WAYS + i];
                        near += next >= 0 ? heat[next] : 0;
                    }
                    return near;
                }
                case Law.GUESTS: return guests.sitters[seat] == NONE ? 0 : 1;
                case Law.X: return room.xs[seat];
                case Law.Y: return room.ys[seat];
                case Law.MINUTE: return now;
                case Law.WAY: return way;
                case Law.BACK: return seat == before ? 1 : 0;
                case Law.EDGE: return room.edges[seat];
                default: return 0;
            }
        }

        /** Each guest who isn't away is as warm as a draw says. */
        void drawWarmth() {
            for (int guest = 0; guest < guests.number; guest++) {
                if (guests.here(guest)) {
                    draws = (int) ((draws * 1103515245L + 12345L) & 2147483647L);
                    guests.warmth[guest] = draws / 65536 % 100;
                }
            }
        }

        int allHeat() {
            int sum = 0;
            for (int seat = 0; seat < room.seats; seat++) {
                sum += heat[seat];
            }
            return sum;
        }

        int logged() {
            return Math.min(now, LOG);
        }

        /** Where the spot was behind a minute that the log still keeps; NONE without it. */
        int spotAgo(int ago) {
            return ago < 1 || ago > logged() ? NONE : log[(now - ago) % LOG];
        }
    }
}
