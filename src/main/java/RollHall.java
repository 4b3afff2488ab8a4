import java.util.Arrays;

/**
 * A convention: meetings, seats, rules read from texts, a session with appeals, ballots,
 * bargains and planks. What each call answers stands in the project's document.
 */
public final class RollHall {
    public static final int NONE = -1, BAD = -2, STATE = -3, FULL = -4;

    // NONE is an answer of bind (told nothing before), so its refusal has a number of its own.
    private static final int NOT_TOLD = -5;
    // A FAULT's place is told below every refusal.
    private static final int FAULT = -10;

    private static final int STATES = 8, NAMES = 8;

    // The KEYS, in the order of KEY_NAMES.
    private static final int PLANK = 0, SEAT = 1, APPEAL = 2, NAME = 3, CLOSE = 4, KEYS = 5;
    private static final String KEY_NAMES = "plank seat appeal name close";

    // The FIELDS, in the order of FIELD_NAMES; the row NOW holds one number for each.
    private static final int BALLOTS = 0, SEATS = 1, PLANKS = 2, DEPTH = 3, FIELDS = 4;
    private static final String FIELD_NAMES = "ballots seats planks depth";

    // The signs of a TEST, in the order of SIGNS.
    private static final int EQUAL = 0, LESS = 1;
    private static final String SIGNS = "= < >";

    private final Meetings meetings = new Meetings();
    private final Seats seats = new Seats();
    private final Tape tape = new Tape();
    private final Rules rules = new Rules();
    private final Pile pile = new Pile();
    private final Rulings rulings = new Rulings();
    private final Ballots ballots = new Ballots();
    private final Bargains bargains = new Bargains();
    private final Planks planks = new Planks();
    private final int[] now = new int[FIELDS];
    private boolean over = false;
    private int nominee = NONE;

    public RollHall() {
    }

    // ---- meetings and seats

    public int meeting(int state, int above, int notice, int roll) {
        if (!isState(state) || above != NONE && !meetings.has(above)) {
            return NONE;
        }
        if (!within(notice, 0, 99) || !within(roll, 0, 999)) {
            return BAD;
        }
        return meetings.isFull() ? FULL : meetings.add(above, notice, roll);
    }

    public int law(int what, int v) {
        if (!within(what, 0, 1)) {
            return NONE;
        }
        if (!within(v, 0, what == 0 ? 99 : 999)) {
            return BAD;
        }
        return what == 0 ? meetings.changeDays(v) : meetings.changeQuorum(v);
    }

    public int good(int m) {
        return meetings.has(m) ? bit(meetings.isGood(m)) : NONE;
    }

    public int seat(int kind, int state, int meeting, int x) {
        if (!isState(state) || !meetings.has(meeting) || tellsNone(kind, x)) {
            return NONE;
        }
        if (!within(kind, Seats.WHOLE, Seats.ALTERNATE) || !isAsTold(kind, x)) {
            return BAD;
        }
        return seats.isFull() ? FULL : seats.add(kind, state, meeting, x);
    }

    public int out(int s, int is) {
        if (!seats.has(s)) {
            return NONE;
        }
        return within(is, 0, 1) ? exchange(seats.out, s, is) : BAD;
    }

    public int like(int s, int name) {
        if (!seats.has(s) || !isName(name)) {
            return NONE;
        }
        return seats.hasLike(s, name) ? BAD : seats.addLike(s, name);
    }

    public int unlike(int s) {
        return seats.has(s) ? exchange(seats.liked, s, 0) : NONE;
    }

    public int credential(int s) {
        if (!seats.has(s)) {
            return NONE;
        }
        if (seats.kind[s] != Seats.RIVAL) {
            return BAD;
        }
        return bit(meetings.isGood(seats.meeting[s])) + 2 * bit(meetings.isGood(seats.extra[s]));
    }

    public int about(int s, int what) {
        if (!seats.has(s)) {
            return NONE;
        }
        switch (what) {
            case 0: return seats.kind[s];
            case 1: return seats.state[s];
            case 2: return seats.meeting[s];
            case 3: return seats.out[s];
            case 4: return seats.seated[s];
            case 5: return bit(seats.halves(s) > 0);
            case 6: return seats.halves(s);
            case 7: return seats.liked[s];
            default: return NONE;
        }
    }

    // ---- rules

    public int feed(long w, int n) {
        if (!within(n, 1, 8)) {
            return BAD;
        }
        return tape.hasRoom(n) ? tape.append(w, n) : FULL;
    }

    public int rule() {
        // A FAULT empties THE TAPE, so it is no REFUSAL: that there is no room is told ahead of it.
        if (rules.isFull()) {
            return FULL;
        }
        boolean read = rules.read(tape);
        tape.clear();
        return read ? rules.keep() : FAULT - tape.fault();
    }

    public int force(int key) {
        if (!isKey(key)) {
            return NONE;
        }
        look();
        return rules.inForce(key, now);
    }

    // ---- the session

    public int move(int key, int number) {
        if (!isKey(key) || !tellsThing(key, number)) {
            return NONE;
        }
        look();
        int r = rules.inForce(key, now);
        if (over || !pile.lies(rules.rankOf(r))) {
            return STATE;
        }
        if (pile.isFull()) {
            return FULL;
        }
        return pile.add(key, number, rules.rankOf(r), rules.needOf(r), rules.partsOf(r));
    }

    public int vote(int yes) {
        if (seats.hasBitOfNone(yes)) {
            return BAD;
        }
        if (pile.isEmpty()) {
            return STATE;
        }
        pile.drop();
        boolean carried = makes(seats.halvesOf(yes), seats.allHalves(), pile.droppedNeed(), pile.droppedParts());
        if (carried) {
            carry(pile.droppedKey(), pile.droppedNumber());
        }
        return bit(carried);
    }

    public int motion(int i, int what) {
        if (!pile.has(i)) {
            return NONE;
        }
        switch (what) {
            case 0: return pile.key[i];
            case 1: return pile.number[i];
            case 2: return pile.rank[i];
            case 3: return pile.need[i];
            case 4: return pile.parts[i];
            default: return NONE;
        }
    }

    // ---- ballots

    public int bind(int state, int name) {
        if (!isState(state) || name != NONE && !isName(name)) {
            return NOT_TOLD;
        }
        return exchange(ballots.told, state, name);
    }

    public int release(int name, int is) {
        if (!isName(name)) {
            return NONE;
        }
        return within(is, 0, 1) ? exchange(ballots.released, name, is) : BAD;
    }

    public int ballot() {
        if (over) {
            return STATE;
        }
        look();
        return ballots.hold(seats, rules, now);
    }

    public int had(int name) {
        return isName(name) ? ballots.latest[name] : NONE;
    }

    public int foresee() {
        look();
        return ballots.lookAhead(seats, rules, now);
    }

    public int needs() {
        look();
        ballots.lookAhead(seats, rules, now);
        return ballots.ahead;
    }

    public int turned() {
        look();
        return ballots.firstTurn(seats, rules, now);
    }

    // ---- bargains and planks

    public int group(int g, int votes) {
        if (!isGroup(g)) {
            return NONE;
        }
        return within(votes, 0, 99) ? exchange(bargains.votes, g, votes) : BAD;
    }

    public int offer(int set) {
        if (!within(set, 1, Bargains.EVERYONE)) {
            return BAD;
        }
        return bargains.isFull() ? FULL : bargains.add(set);
    }

    public int gets(int offer, int g, int worth) {
        if (!bargains.has(offer) || !isGroup(g) || !bargains.isIn(offer, g)) {
            return NONE;
        }
        return within(worth, 0, 99) ? exchange(bargains.worth, offer * Bargains.GROUPS + g, worth) : BAD;
    }

    public int bargain(int offer, int what) {
        if (!bargains.has(offer) || !within(what, 0, 1)) {
            return NONE;
        }
        boolean wins = bargains.wins(offer);
        return bit(what == 0 ? wins : wins && bargains.breaker(offer) == NONE);
    }

    public int breaks(int offer) {
        return bargains.has(offer) && bargains.wins(offer) ? bargains.breaker(offer) : NONE;
    }

    public int plank() {
        return planks.isFull() ? FULL : planks.add();
    }

    public int amend(int p, int i, int word) {
        if (!planks.has(p) || !within(i, 0, planks.length[p])) {
            return NONE;
        }
        if (!within(word, 0, 999)) {
            return BAD;
        }
        return planks.length[p] == Planks.WORDS ? FULL : planks.insert(p, i, word);
    }

    public int strike(int p, int i, int n) {
        if (!planks.has(p) || !within(i, 0, planks.length[p])) {
            return NONE;
        }
        return within(n, 0, planks.length[p] - i) ? planks.cut(p, i, n) : BAD;
    }

    public int platform(int i) {
        return planks.wordTaken(i);
    }

    public int taken(int p) {
        return planks.has(p) ? planks.taken[p] : NONE;
    }

    public int count(int what) {
        switch (what) {
            case 0: return meetings.size;
            case 1: return seats.size;
            case 2: return rules.size;
            case 3: return pile.open;
            case 4: return ballots.held;
            case 5: return bit(over);
            case 6: return nominee;
            case 7: return seats.allHalves();
            case 8: return rulings.size;
            case 9: return planks.size;
            case 10: return bargains.size;
            case 11: return planks.wordsTaken();
            case 12: return tape.size;
            default: return NONE;
        }
    }

    // ---- what the calls share

    private static boolean within(int v, int low, int high) {
        return low <= v && v <= high;
    }

    private static boolean isState(int state) {
        return within(state, 0, STATES - 1);
    }

    private static boolean isName(int name) {
        return within(name, 0, NAMES - 1);
    }

    private static boolean isKey(int key) {
        return within(key, 0, KEYS - 1);
    }

    private static boolean isGroup(int g) {
        return within(g, 0, Bargains.GROUPS - 1);
    }

    private static int bit(boolean is) {
        return is ? 1 : 0;
    }

    /** Puts v into a place of a row, and tells what was there. */
    private static int exchange(int[] row, int place, int v) {
        int was = row[place];
        row[place] = v;
        return was;
    }

    /** Whether a share of all halves MAKES need of parts; just the half of them is not enough. */
    private static boolean makes(int share, int all, int need, int parts) {
        int has = share * parts;
        int due = all * need;
        return 2 * need == parts ? has > due : has >= due;
    }

    /** Whether a new SEAT's x tells a thing that is not there. */
    private boolean tellsNone(int kind, int x) {
        switch (kind) {
            case Seats.BOUND: return !isName(Seats.nameOf(x));
            case Seats.RIVAL: return !meetings.has(x);
            case Seats.ALTERNATE: return !seats.has(x);
            default: return false;
        }
    }

    /** Whether a new SEAT's x, which tells things that are there, is a number as told. */
    private boolean isAsTold(int kind, int x) {
        switch (kind) {
            case Seats.BOUND: return within(Seats.ballotsOf(x), 0, 20);
            case Seats.RIVAL: return true;
            case Seats.ALTERNATE: return seats.has(x) && seats.kind[x] != Seats.ALTERNATE;
            default: return x == 0;
        }
    }

    /** Whether a MOTION's number tells what its KEY asks for. */
    private boolean tellsThing(int key, int number) {
        switch (key) {
            case PLANK: return planks.has(number);
            case SEAT: return number >= 0 && seats.isRival(number % Seats.MOST);
            case NAME: return isName(number);
            default: return number == 0;
        }
    }

    /** Looks at all that TESTS and BALLOTS ask for, as it is now. */
    private void look() {
        ballots.tally.weigh(seats);
        now[BALLOTS] = ballots.held;
        now[SEATS] = ballots.tally.voting;
        now[PLANKS] = planks.countTaken();
        now[DEPTH] = pile.open;
    }

    private void carry(int key, int number) {
        switch (key) {
            case PLANK:
                change(PLANK, number, 1 - standing(PLANK, number));
                break;
            case SEAT:
                change(SEAT, number % Seats.MOST, number < Seats.MOST ? 1 : 2);
                break;
            case NAME:
                change(NAME, 0, number);
                break;
            case APPEAL:
                undo();
                break;
            case CLOSE:
                over = true;
                pile.clear();
                break;
            default:
                break;
        }
    }

    /** What a RULING on a thing changes, as it stands. */
    private int standing(int key, int thing) {
        switch (key) {
            case PLANK: return planks.taken[thing];
            case SEAT: return seats.seated[thing];
            default: return nominee;
        }
    }

    private void put(int key, int thing, int v) {
        switch (key) {
            case PLANK:
                planks.taken[thing] = v;
                break;
            case SEAT:
                seats.seated[thing] = v;
                break;
            default:
                nominee = v;
                break;
        }
    }

    private void change(int key, int thing, int v) {
        rulings.keep(key, thing, standing(key, thing));
        put(key, thing, v);
    }

    private void undo() {
        if (rulings.size > 0) {
            rulings.drop();
            put(rulings.droppedKey(), rulings.droppedThing(), rulings.droppedBefore());
        }
    }

    // A MEETING's own STATE is not held: no call asks for it.
    private static final class Meetings {
        static final int MOST = 24;
        final int[] above = new int[MOST];
        final int[] notice = new int[MOST];
        final int[] roll = new int[MOST];
        int size = 0;
        int days = 7;
        int quorum = 5;

        boolean has(int m) {
            return within(m, 0, size - 1);
        }

        boolean isFull() {
            return size == MOST;
        }

        int add(int aboveIt, int noticeOfIt, int rollOfIt) {
            above[size] = aboveIt;
            notice[size] = noticeOfIt;
            roll[size] = rollOfIt;
            return size++;
        }

        int changeDays(int v) {
            int was = days;
            days = v;
            return was;
        }

        int changeQuorum(int v) {
            int was = quorum;
            quorum = v;
            return was;
        }

        boolean isGood(int m) {
            int at = m;
            // Each one above has a lesser number: no chain is longer than all MEETINGS.
            for (int step = 0; step < MOST && has(at); step++) {
                if (notice[at] < days || roll[at] < quorum) {
                    return false;
                }
                at = above[at];
            }
            return true;
        }
    }

    private static final class Seats {
        static final int MOST = 30;
        static final int WHOLE = 0, HALF = 1, UNIT = 2, BOUND = 3, RIVAL = 4, ALTERNATE = 5;
        final int[] kind = new int[MOST];
        final int[] state = new int[MOST];
        final int[] meeting = new int[MOST];
        // What x tells: of BOUND ones the NAME, of RIVAL ones the MEETING, of ALTERNATES the SEAT.
        final int[] extra = new int[MOST];
        final int[] boundTill = new int[MOST];
        final int[] out = new int[MOST];
        final int[] seated = new int[MOST];
        final int[] liked = new int[MOST];
        final int[] likes = new int[MOST * NAMES];
        int size = 0;

        // Taken apart with floors, so that a number below 0 has BALLOTS below 0.
        static int ballotsOf(int x) {
            return Math.floorDiv(x, 100);
        }

        static int nameOf(int x) {
            return Math.floorMod(x, 100);
        }

        boolean has(int s) {
            return within(s, 0, size - 1);
        }

        boolean isFull() {
            return size == MOST;
        }

        boolean isRival(int s) {
            return has(s) && kind[s] == RIVAL;
        }

        int add(int kindOfIt, int stateOfIt, int meetingBehind, int x) {
            kind[size] = kindOfIt;
            state[size] = stateOfIt;
            meeting[size] = meetingBehind;
            extra[size] = kindOfIt == BOUND ? nameOf(x) : x;
            boundTill[size] = kindOfIt == BOUND ? ballotsOf(x) : 0;
            seated[size] = kindOfIt == RIVAL ? 0 : 1;
            return size++;
        }

        boolean hasLike(int s, int name) {
            for (int i = 0; i < liked[s]; i++) {
                if (likes[s * NAMES + i] == name) {
                    return true;
                }
            }
            return false;
        }

        int addLike(int s, int name) {
            // Each NAME stands there once at most, so the row can't overflow.
            likes[s * NAMES + liked[s]] = name;
            return ++liked[s];
        }

        /** The halves with which a SEAT VOTES; 0 if it does not. */
        int halves(int s) {
            if (out[s] == 1) {
                return 0;
            }
            if (kind[s] != ALTERNATE) {
                return halvesInside(s);
            }
            int stoodFor = extra[s];
            return out[stoodFor] == 1 ? halvesInside(stoodFor) : 0;
        }

        /** The halves of a SEAT that is no ALTERNATE, as if it were IN. */
        private int halvesInside(int s) {
            if (seated[s] == 0) {
                return 0;
            }
            return kind[s] == HALF ? 1 : 2;
        }

        int allHalves() {
            return halvesOf(-1);
        }

        int halvesOf(int set) {
            int sum = 0;
            for (int s = 0; s < size; s++) {
                if ((set >> s & 1) == 1) {
                    sum += halves(s);
                }
            }
            return sum;
        }

        boolean hasBitOfNone(int set) {
            // 30 SEATS at most: the shift stays below the width of an int.
            return set >>> size != 0;
        }

        /** The NAME that a SEAT itself is for in a BALLOT; NONE if it passes. */
        int choice(int s, int ballot, int[] released) {
            if (kind[s] == BOUND && ballot <= boundTill[s] && released[extra[s]] == 0) {
                return extra[s];
            }
            for (int i = 0; i < liked[s]; i++) {
                int name = likes[s * NAMES + i];
                if (released[name] == 0) {
                    return name;
                }
            }
            return NONE;
        }
    }

    /** THE TAPE, and the place up to which it is read; behind a FAULT nothing more is read. */
    private static final class Tape {
        static final int MOST = 120;
        final int[] bytes = new int[MOST];
        int size = 0;
        private int at = 0;
        private boolean faulty = false;

        boolean hasRoom(int n) {
            return size + n <= MOST;
        }

        int append(long w, int n) {
            for (int i = n - 1; i >= 0; i--) {
                bytes[size] = (int) (w >>> 8 * i & 255);
                size++;
            }
            return size;
        }

        void clear() {
            size = 0;
        }

        void rewind() {
            at = 0;
            faulty = false;
        }

        int fault() {
            return at;
        }

        boolean goesOn() {
            return !faulty && at < size;
        }

        boolean isReadWhole() {
            return !faulty && at == size;
        }

        /** The byte to be read; none behind the end or a FAULT. */
        private int next() {
            return !faulty && at < size ? bytes[at] : NONE;
        }

        private void readSign(char sign) {
            if (next() == sign) {
                at++;
            } else {
                faulty = true;
            }
        }

        void readText(String text) {
            for (int i = 0; i < text.length(); i++) {
                readSign(text.charAt(i));
            }
        }

        /** Reads one of the words of a text; no two of them begin alike. */
        int readWord(String words) {
            int first = next();
            int word = 0;
            for (int i = 0; i < words.length(); i++) {
                if (words.charAt(i) == ' ') {
                    word++;
                } else if (beginsWord(words, i) && words.charAt(i) == first) {
                    readRest(words, i);
                    return word;
                }
            }
            faulty = true;
            return 0;
        }

        private static boolean beginsWord(String words, int i) {
            return i == 0 || words.charAt(i - 1) == ' ';
        }

        private void readRest(String words, int from) {
            for (int i = from; i < words.length() && words.charAt(i) != ' '; i++) {
                readSign(words.charAt(i));
            }
        }

        int readDigit(int least) {
            int digit = next() - '0';
            if (!within(digit, least, 9)) {
                faulty = true;
                return least;
            }
            at++;
            return digit;
        }

        int readNumber() {
            int number = readDigit(0);
            for (int i = 1; i < 3 && within(next(), '0', '9'); i++) {
                number = 10 * number + readDigit(0);
            }
            return number;
        }
    }

    /** The RULES; the one that is being read stands behind them. */
    private static final class Rules {
        static final int MOST = 10, TESTS = 2;
        final int[] key = new int[MOST];
        final int[] rank = new int[MOST];
        final int[] need = new int[MOST];
        final int[] parts = new int[MOST];
        final int[] tests = new int[MOST];
        final int[] field = new int[MOST * TESTS];
        final int[] sign = new int[MOST * TESTS];
        final int[] number = new int[MOST * TESTS];
        int size = 0;

        boolean isFull() {
            return size == MOST;
        }

        /** Reads THE TAPE into the row behind the last RULE, while there is one: whether it is a RULE. */
        boolean read(Tape tape) {
            tape.rewind();
            key[size] = tape.readWord(KEY_NAMES);
            tape.readText(" rank ");
            rank[size] = tape.readDigit(0);
            tape.readText(" need ");
            need[size] = tape.readDigit(0);
            tape.readText(" of ");
            parts[size] = tape.readDigit(1);
            tests[size] = 0;
            if (tape.goesOn()) {
                tape.readText(" if ");
                readTest(tape);
            }
            if (tape.goesOn()) {
                tape.readText(" and ");
                readTest(tape);
            }
            return tape.isReadWhole();
        }

        private void readTest(Tape tape) {
            int t = size * TESTS + tests[size];
            field[t] = tape.readWord(FIELD_NAMES);
            sign[t] = tape.readWord(SIGNS);
            number[t] = tape.readNumber();
            tests[size]++;
        }

        int keep() {
            return size++;
        }

        int inForce(int wanted, int[] now) {
            for (int r = size - 1; r >= 0; r--) {
                if (key[r] == wanted && allHold(r, now)) {
                    return r;
                }
            }
            return NONE;
        }

        private boolean allHold(int r, int[] now) {
            for (int t = r * TESTS; t < r * TESTS + tests[r]; t++) {
                if (!holds(t, now[field[t]])) {
                    return false;
                }
            }
            return true;
        }

        private boolean holds(int t, int v) {
            switch (sign[t]) {
                case EQUAL: return v == number[t];
                case LESS: return v < number[t];
                default: return v > number[t];
            }
        }

        // Without a RULE: rank 0, need 1 of 2.
        int rankOf(int r) {
            return r == NONE ? 0 : rank[r];
        }

        int needOf(int r) {
            return r == NONE ? 1 : need[r];
        }

        int partsOf(int r) {
            return r == NONE ? 2 : parts[r];
        }
    }

    /** The MOTIONS that are open; what was dropped last can still be read. */
    private static final class Pile {
        static final int MOST = 6;
        final int[] key = new int[MOST];
        final int[] number = new int[MOST];
        final int[] rank = new int[MOST];
        final int[] need = new int[MOST];
        final int[] parts = new int[MOST];
        int open = 0;

        boolean has(int i) {
            return within(i, 0, open - 1);
        }

        boolean isEmpty() {
            return open == 0;
        }

        boolean isFull() {
            return open == MOST;
        }

        /** Whether a MOTION of a rank can lie on the uppermost one. */
        boolean lies(int rankOfIt) {
            return open == 0 || rankOfIt > rank[open - 1];
        }

        int add(int keyOfIt, int numberOfIt, int rankOfIt, int needOfIt, int partsOfIt) {
            key[open] = keyOfIt;
            number[open] = numberOfIt;
            rank[open] = rankOfIt;
            need[open] = needOfIt;
            parts[open] = partsOfIt;
            return ++open;
        }

        void drop() {
            open--;
        }

        void clear() {
            open = 0;
        }

        int droppedKey() {
            return key[open];
        }

        int droppedNumber() {
            return number[open];
        }

        int droppedNeed() {
            return need[open];
        }

        int droppedParts() {
            return parts[open];
        }
    }

    /** The RULINGS that can be undone, the oldest first; what was dropped last can still be read. */
    private static final class Rulings {
        static final int MOST = 40;
        final int[] key = new int[MOST];
        final int[] thing = new int[MOST];
        final int[] before = new int[MOST];
        int size = 0;

        void keep(int keyOfIt, int thingOfIt, int wasBefore) {
            if (size == MOST) {
                forgetOldest();
            }
            key[size] = keyOfIt;
            thing[size] = thingOfIt;
            before[size] = wasBefore;
            size++;
        }

        private void forgetOldest() {
            System.arraycopy(key, 1, key, 0, MOST - 1);
            System.arraycopy(thing, 1, thing, 0, MOST - 1);
            System.arraycopy(before, 1, before, 0, MOST - 1);
            size--;
        }

        void drop() {
            size--;
        }

        int droppedKey() {
            return key[size];
        }

        int droppedThing() {
            return thing[size];
        }

        int droppedBefore() {
            return before[size];
        }
    }

    /** The halves of one BALLOT, NAME by NAME; its rows serve every BALLOT anew. */
    private static final class Tally {
        private final int[] halves = new int[Seats.MOST];
        private final int[] unit = new int[STATES * NAMES];
        private final int[] unitAll = new int[STATES];
        private final int[] stateAll = new int[STATES];
        final int[] got = new int[NAMES];
        int all = 0;
        int voting = 0;

        /** Who VOTES: no BALLOT changes that, so it is looked at once for all that are foreseen. */
        void weigh(Seats seats) {
            all = 0;
            voting = 0;
            Arrays.fill(stateAll, 0);
            for (int s = 0; s < seats.size; s++) {
                halves[s] = seats.halves(s);
                all += halves[s];
                voting += bit(halves[s] > 0);
                stateAll[seats.state[s]] += halves[s];
            }
        }

        boolean hasVoters(int state) {
            return stateAll[state] > 0;
        }

        void take(Seats seats, int ballot, int[] told, int[] released) {
            Arrays.fill(got, 0);
            Arrays.fill(unit, 0);
            Arrays.fill(unitAll, 0);
            for (int s = 0; s < seats.size; s++) {
                int state = seats.state[s];
                if (told[state] != NONE) {
                    got[told[state]] += halves[s];
                } else if (halves[s] > 0) {
                    cast(seats.kind[s] == Seats.UNIT, state, halves[s], seats.choice(s, ballot, released));
                }
            }
            for (int state = 0; state < STATES; state++) {
                castUnit(state);
            }
        }

        private void cast(boolean isUnit, int state, int weight, int name) {
            // A UNIT's SEATS that pass follow the others, so they count for it, too.
            if (isUnit) {
                unitAll[state] += weight;
            }
            if (isUnit && name != NONE) {
                unit[state * NAMES + name] += weight;
            } else if (name != NONE) {
                got[name] += weight;
            }
        }

        private void castUnit(int state) {
            int name = most(unit, state * NAMES);
            if (name != NONE) {
                got[name] += unitAll[state];
            }
        }

        int leader() {
            return most(got, 0);
        }

        /** The least NAME with most halves of those that stand in a row; NONE if there are no halves. */
        private static int most(int[] row, int from) {
            int best = NONE;
            int mostHalves = 0;
            for (int name = 0; name < NAMES; name++) {
                if (row[from + name] > mostHalves) {
                    best = name;
                    mostHalves = row[from + name];
                }
            }
            return best;
        }

        /** The greatest NAME with the fewest halves of those that are not RELEASED; NONE if all are. */
        int last(int[] released) {
            int worst = NONE;
            for (int name = 0; name < NAMES; name++) {
                if (released[name] == 0 && (worst == NONE || got[name] <= got[worst])) {
                    worst = name;
                }
            }
            return worst;
        }
    }

    /** BALLOTS, held and foreseen. */
    private static final class Ballots {
        final Tally tally = new Tally();
        final int[] told = new int[STATES];
        final int[] released = new int[NAMES];
        final int[] latest = new int[NAMES];
        private final int[] gone = new int[NAMES];
        int held = 0;
        int ahead = 0;

        Ballots() {
            Arrays.fill(told, NONE);
        }

        int hold(Seats seats, Rules rules, int[] now) {
            int won = winner(seats, rules, now, released);
            System.arraycopy(tally.got, 0, latest, 0, NAMES);
            held++;
            return won;
        }

        /** The NAME that has WON the BALLOT behind those that NOW tells. */
        private int winner(Seats seats, Rules rules, int[] now, int[] without) {
            tally.take(seats, now[BALLOTS] + 1, told, without);
            int first = tally.leader();
            if (first == NONE) {
                return NONE;
            }
            int r = rules.inForce(NAME, now);
            return makes(tally.got[first], tally.all, rules.needOf(r), rules.partsOf(r)) ? first : NONE;
        }

        /** FORESEEN: the NAME that it ends with; AHEAD tells then how many BALLOTS it took. */
        int lookAhead(Seats seats, Rules rules, int[] now) {
            System.arraycopy(released, 0, gone, 0, NAMES);
            int won = NONE;
            ahead = 0;
            // Each BALLOT that is not WON releases a NAME: one for each is the most.
            while (won == NONE && ahead < NAMES && someStay()) {
                now[BALLOTS] = held + ahead;
                won = winner(seats, rules, now, gone);
                ahead++;
                if (won == NONE) {
                    letLastGo();
                }
            }
            return won;
        }

        private boolean someStay() {
            for (int name = 0; name < NAMES; name++) {
                if (gone[name] == 0) {
                    return true;
                }
            }
            return false;
        }

        private void letLastGo() {
            int last = tally.last(gone);
            if (last != NONE) {
                gone[last] = 1;
            }
        }

        /** TURNED: 10 times the STATE and the NAME. */
        int firstTurn(Seats seats, Rules rules, int[] now) {
            int end = lookAhead(seats, rules, now);
            for (int pair = 0; pair < STATES * NAMES; pair++) {
                int state = pair / NAMES;
                // What a STATE without a SEAT that VOTES is told changes nothing.
                if (tally.hasVoters(state)) {
                    int was = exchange(told, state, pair % NAMES);
                    int otherEnd = lookAhead(seats, rules, now);
                    told[state] = was;
                    if (otherEnd != end) {
                        return 10 * state + pair % NAMES;
                    }
                }
            }
            return NONE;
        }
    }

    private static final class Bargains {
        static final int GROUPS = 6, EVERYONE = 63, MOST = 12;
        final int[] votes = new int[GROUPS];
        final int[] set = new int[MOST];
        // What is never told stays 0: just what a GROUP gets of an OFFER that it is not in.
        final int[] worth = new int[MOST * GROUPS];
        int size = 0;

        boolean has(int offer) {
            return within(offer, 0, size - 1);
        }

        boolean isFull() {
            return size == MOST;
        }

        int add(int groups) {
            set[size] = groups;
            return size++;
        }

        boolean isIn(int offer, int g) {
            return (set[offer] >> g & 1) == 1;
        }

        private int votesOf(int groups) {
            int sum = 0;
            for (int g = 0; g < GROUPS; g++) {
                sum += (groups >> g & 1) * votes[g];
            }
            return sum;
        }

        boolean wins(int offer) {
            return 2 * votesOf(set[offer]) > votesOf(EVERYONE);
        }

        /** The first other OFFER that WINS and gives each of its own GROUPS more; NONE. */
        int breaker(int offer) {
            for (int other = 0; other < size; other++) {
                if (other != offer && wins(other) && givesMore(other, offer)) {
                    return other;
                }
            }
            return NONE;
        }

        private boolean givesMore(int other, int offer) {
            for (int g = 0; g < GROUPS; g++) {
                if (isIn(other, g) && worth[other * GROUPS + g] <= worth[offer * GROUPS + g]) {
                    return false;
                }
            }
            return true;
        }
    }

    private static final class Planks {
        static final int MOST = 8, WORDS = 12;
        final int[] words = new int[MOST * WORDS];
        final int[] length = new int[MOST];
        final int[] taken = new int[MOST];
        int size = 0;

        boolean has(int p) {
            return within(p, 0, size - 1);
        }

        boolean isFull() {
            return size == MOST;
        }

        int add() {
            return size++;
        }

        int insert(int p, int i, int word) {
            int place = p * WORDS + i;
            System.arraycopy(words, place, words, place + 1, length[p] - i);
            words[place] = word;
            return ++length[p];
        }

        int cut(int p, int i, int n) {
            int place = p * WORDS + i;
            System.arraycopy(words, place + n, words, place, length[p] - i - n);
            length[p] -= n;
            return length[p];
        }

        int countTaken() {
            int sum = 0;
            for (int p = 0; p < size; p++) {
                sum += taken[p];
            }
            return sum;
        }

        int wordsTaken() {
            int sum = 0;
            for (int p = 0; p < size; p++) {
                sum += taken[p] * length[p];
            }
            return sum;
        }

        /** WORD i of THE PLATFORM; NONE if it has none such. */
        int wordTaken(int i) {
            int left = i;
            for (int p = 0; p < size && left >= 0; p++) {
                if (taken[p] == 1 && left < length[p]) {
                    return words[p * WORDS + left];
                }
                left -= taken[p] * length[p];
            }
            return NONE;
        }
    }
}
