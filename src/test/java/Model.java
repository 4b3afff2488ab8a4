import java.util.ArrayList;
import java.util.Arrays;
import java.util.HashSet;
import java.util.LinkedHashSet;
import java.util.List;
import java.util.Set;
import java.util.regex.Matcher;
import java.util.regex.Pattern;

/** The document written a second time, with the whole library and without thrift, to be held against the class. */
final class Model {
    private static final int NONE = -1, BAD = -2, OVER = -3, FULL = -4;
    private static final List<String> KEYS = List.of("plank", "seat", "appeal", "name", "close");
    private static final String TEST = "(ballots|seats|planks|depth)([=<>])([0-9]{1,3})";
    private static final Pattern RULE = Pattern.compile("(plank|seat|appeal|name|close) rank ([0-9]) need ([0-9]) of ([1-9])"
        + "(?: if " + TEST + "(?: and " + TEST + ")?)?");

    private record Meeting(Meeting above, int notice, int roll) { }

    private static final class Seat {
        int kind, state, meeting, bound, till, other, claim;
        boolean out;
        Seat base;
        final Set<Integer> likes = new LinkedHashSet<>();

        boolean entitled() {
            return kind != 4 || claim > 0;
        }

        boolean votes() {
            return !out && entitled() && (base == null || base.out && base.entitled());
        }

        int halves() {
            return !votes() ? 0 : (base == null ? kind : base.kind) == 1 ? 1 : 2;
        }
    }

    private record Rule(String key, int rank, int n, int m, List<String[]> tests) { }

    private record Motion(int key, int number, int rank, int n, int m) { }

    private static final class Plank {
        final List<Integer> words = new ArrayList<>();
        boolean taken;
    }

    private static final class Offer {
        final Set<Integer> groups = new HashSet<>();
        final int[] worth = new int[6];
    }

    private final List<Meeting> meetings = new ArrayList<>();
    private final List<Seat> seats = new ArrayList<>();
    private final List<Rule> rules = new ArrayList<>();
    private final List<Motion> pile = new ArrayList<>();
    private final List<Runnable> undos = new ArrayList<>();
    private final List<Plank> planks = new ArrayList<>();
    private final List<Offer> offers = new ArrayList<>();
    private final int[] votes = new int[6];
    private final Integer[] told = new Integer[8];
    private Set<Integer> released = new HashSet<>();
    private int[] latest = new int[8];
    private String tape = "";
    private int days = 7, quorum = 5, ballots = 0, nominee = NONE;
    private boolean over = false;

    private static boolean in(int v, int most) {
        return v >= 0 && v <= most;
    }

    private boolean good(Meeting m) {
        return m == null || m.notice >= days && m.roll >= quorum && good(m.above);
    }

    int meeting(int state, int above, int notice, int roll) {
        if (!in(state, 7) || above != -1 && !in(above, meetings.size() - 1)) return NONE;
        if (!in(notice, 99) || !in(roll, 999)) return BAD;
        if (meetings.size() >= 24) return FULL;
        meetings.add(new Meeting(above == -1 ? null : meetings.get(above), notice, roll));
        return meetings.size() - 1;
    }

    int law(int what, int v) {
        if (!in(what, 1)) return NONE;
        if (!in(v, what == 0 ? 99 : 999)) return BAD;
        int was = what == 0 ? days : quorum;
        if (what == 0) days = v; else quorum = v;
        return was;
    }

    int good(int m) {
        return !in(m, meetings.size() - 1) ? NONE : good(meetings.get(m)) ? 1 : 0;
    }

    int seat(int kind, int state, int meeting, int x) {
        int name = (x % 100 + 100) % 100;
        int till = (x - name) / 100;
        if (!in(state, 7) || !in(meeting, meetings.size() - 1)) return NONE;
        if (kind == 3 && name > 7) return NONE;
        if (kind == 4 && !in(x, meetings.size() - 1)) return NONE;
        if (kind == 5 && !in(x, seats.size() - 1)) return NONE;
        if (!in(kind, 5) || kind < 3 && x != 0 || kind == 3 && !in(till, 20)) return BAD;
        if (kind == 5 && seats.get(x).kind == 5) return BAD;
        if (seats.size() >= 30) return FULL;
        Seat s = new Seat();
        s.kind = kind;
        s.state = state;
        s.meeting = meeting;
        s.bound = name;
        s.till = kind == 3 ? till : 0;
        s.other = x;
        s.base = kind == 5 ? seats.get(x) : null;
        seats.add(s);
        return seats.size() - 1;
    }

    private Seat seatOrNull(int s) {
        return in(s, seats.size() - 1) ? seats.get(s) : null;
    }

    int out(int s, int is) {
        Seat seat = seatOrNull(s);
        if (seat == null) return NONE;
        if (!in(is, 1)) return BAD;
        int was = seat.out ? 1 : 0;
        seat.out = is == 1;
        return was;
    }

    int like(int s, int name) {
        Seat seat = seatOrNull(s);
        if (seat == null || !in(name, 7)) return NONE;
        return seat.likes.add(name) ? seat.likes.size() : BAD;
    }

    int unlike(int s) {
        Seat seat = seatOrNull(s);
        if (seat == null) return NONE;
        int was = seat.likes.size();
        seat.likes.clear();
        return was;
    }

    int credential(int s) {
        Seat seat = seatOrNull(s);
        if (seat == null) return NONE;
        if (seat.kind != 4) return BAD;
        boolean first = good(seat.meeting) == 1;
        boolean other = good(seat.other) == 1;
        return first && other ? 3 : other ? 2 : first ? 1 : 0;
    }

    int about(int s, int what) {
        Seat seat = seatOrNull(s);
        if (seat == null || !in(what, 7)) return NONE;
        return new int[] {seat.kind, seat.state, seat.meeting, seat.out ? 1 : 0, seat.kind == 4 ? seat.claim : 1,
            seat.votes() ? 1 : 0, seat.halves(), seat.likes.size()}[what];
    }

    int feed(long w, int n) {
        if (n < 1 || n > 8) return BAD;
        if (tape.length() + n > 120) return FULL;
        StringBuilder more = new StringBuilder();
        for (int i = 0; i < n; i++, w >>= 8) more.insert(0, (char) (w & 255));
        tape += more;
        return tape.length();
    }

    int rule() {
        if (rules.size() >= 10) return FULL;
        Matcher m = RULE.matcher(tape);
        if (!m.matches()) {
            int place = 0;
            while (place < tape.length() && begins(tape.substring(0, place + 1))) place++;
            tape = "";
            return -10 - place;
        }
        List<String[]> tests = new ArrayList<>();
        for (int g = 5; g <= 8; g += 3) {
            if (m.group(g) != null) tests.add(new String[] {m.group(g), m.group(g + 1), m.group(g + 2)});
        }
        rules.add(new Rule(m.group(1), num(m.group(2)), num(m.group(3)), num(m.group(4)), tests));
        tape = "";
        return rules.size() - 1;
    }

    private static boolean begins(String text) {
        Matcher m = RULE.matcher(text);
        return m.matches() || m.hitEnd();
    }

    private static int num(String digits) {
        return Integer.parseInt(digits);
    }

    private int allHalves() {
        return seats.stream().mapToInt(Seat::halves).sum();
    }

    private boolean holds(String[] test) {
        long v = switch (test[0]) {
            case "ballots" -> ballots;
            case "seats" -> seats.stream().filter(Seat::votes).count();
            case "planks" -> planks.stream().filter(p -> p.taken).count();
            default -> pile.size();
        };
        long n = num(test[2]);
        return test[1].equals("=") ? v == n : test[1].equals("<") ? v < n : v > n;
    }

    private Rule ruleFor(int key) {
        Rule found = new Rule("", 0, 1, 2, List.of());
        for (Rule r : rules) {
            if (r.key.equals(KEYS.get(key)) && r.tests.stream().allMatch(this::holds)) found = r;
        }
        return found;
    }

    int force(int key) {
        if (!in(key, 4)) return NONE;
        Rule found = ruleFor(key);
        for (int r = 0; r < rules.size(); r++) {
            if (rules.get(r) == found) return r;
        }
        return NONE;
    }

    private static boolean makes(int a, int b, int n, int m) {
        return a * m > b * n || a * m == b * n && 2 * n != m;
    }

    int move(int key, int number) {
        if (!in(key, 4)) return NONE;
        boolean fine = switch (key) {
            case 0 -> in(number, planks.size() - 1);
            case 1 -> number >= 0 && seatOrNull(number % 30) != null && seats.get(number % 30).kind == 4;
            case 3 -> in(number, 7);
            default -> number == 0;
        };
        if (!fine) return NONE;
        Rule r = ruleFor(key);
        if (over || !pile.isEmpty() && pile.get(pile.size() - 1).rank >= r.rank) return OVER;
        if (pile.size() >= 6) return FULL;
        pile.add(new Motion(key, number, r.rank, r.n, r.m));
        return pile.size();
    }

    int vote(int yes) {
        for (int b = 0; b < 32; b++) {
            if ((yes & 1 << b) != 0 && b >= seats.size()) return BAD;
        }
        if (pile.isEmpty()) return OVER;
        Motion m = pile.remove(pile.size() - 1);
        int a = 0;
        for (int s = 0; s < seats.size(); s++) {
            if ((yes & 1 << s) != 0) a += seats.get(s).halves();
        }
        if (!makes(a, allHalves(), m.n, m.m)) return 0;
        carry(m);
        return 1;
    }

    private void carry(Motion m) {
        if (m.key == 0) {
            Plank p = planks.get(m.number);
            boolean was = p.taken;
            p.taken = !was;
            undos.add(() -> p.taken = was);
        } else if (m.key == 1) {
            Seat s = seats.get(m.number % 30);
            int was = s.claim;
            s.claim = m.number < 30 ? 1 : 2;
            undos.add(() -> s.claim = was);
        } else if (m.key == 2) {
            if (!undos.isEmpty()) undos.remove(undos.size() - 1).run();
        } else if (m.key == 3) {
            int was = nominee;
            nominee = m.number;
            undos.add(() -> nominee = was);
        } else {
            over = true;
            pile.clear();
        }
        if (undos.size() > 40) undos.remove(0);
    }

    int motion(int i, int what) {
        if (!in(i, pile.size() - 1) || !in(what, 4)) return NONE;
        Motion m = pile.get(i);
        return new int[] {m.key, m.number, m.rank, m.n, m.m}[what];
    }

    int bind(int state, int name) {
        if (!in(state, 7) || name != -1 && !in(name, 7)) return -5;
        Integer was = told[state];
        told[state] = name == -1 ? null : Integer.valueOf(name);
        return was == null ? NONE : was;
    }

    int release(int name, int is) {
        if (!in(name, 7)) return NONE;
        if (!in(is, 1)) return BAD;
        boolean changed = is == 1 ? released.add(name) : released.remove(name);
        return changed ? 1 - is : is;
    }

    private Integer own(Seat s) {
        if (s.kind == 3 && ballots + 1 <= s.till && !released.contains(s.bound)) return s.bound;
        return s.likes.stream().filter(n -> !released.contains(n)).findFirst().orElse(null);
    }

    private Integer unitName(int state) {
        int[] sums = new int[8];
        for (Seat s : seats) {
            if (s.kind == 2 && s.state == state && s.votes() && own(s) != null) sums[own(s)] += s.halves();
        }
        int most = Arrays.stream(sums).max().orElse(0);
        for (int n = 0; n < 8; n++) {
            if (most > 0 && sums[n] == most) return n;
        }
        return null;
    }

    /** Holds a BALLOT for real. */
    private int holdBallot() {
        Rule need = ruleFor(3);
        int[] sums = new int[8];
        for (Seat s : seats) {
            Integer n = told[s.state] != null ? told[s.state] : s.kind == 2 ? unitName(s.state) : own(s);
            if (n != null) sums[n] += s.halves();
        }
        latest = sums;
        ballots++;
        int most = Arrays.stream(sums).max().orElse(0);
        for (int n = 0; n < 8; n++) {
            if (most > 0 && sums[n] == most) return makes(most, allHalves(), need.n, need.m) ? n : NONE;
        }
        return NONE;
    }

    int ballot() {
        return over ? OVER : holdBallot();
    }

    int had(int name) {
        return in(name, 7) ? latest[name] : NONE;
    }

    /** FORESEEN, by holding the BALLOTS for real and putting all back: the NAME, and how many. */
    private int[] ahead() {
        int[] latestWas = latest;
        int ballotsWas = ballots;
        Set<Integer> releasedWas = released;
        released = new HashSet<>(released);
        int won = NONE;
        while (won == NONE && released.size() < 8) {
            won = holdBallot();
            if (won == NONE) {
                int fewest = Integer.MAX_VALUE;
                int who = NONE;
                for (int n = 7; n >= 0; n--) {
                    if (!released.contains(n) && latest[n] < fewest) {
                        fewest = latest[n];
                        who = n;
                    }
                }
                released.add(who);
            }
        }
        int[] answer = {won, ballots - ballotsWas};
        latest = latestWas;
        ballots = ballotsWas;
        released = releasedWas;
        return answer;
    }

    int foresee() {
        return ahead()[0];
    }

    int needs() {
        return ahead()[1];
    }

    int turned() {
        int plain = foresee();
        for (int s = 0; s < 8; s++) {
            for (int x = 0; x < 8; x++) {
                Integer was = told[s];
                told[s] = x;
                int with = foresee();
                told[s] = was;
                if (with != plain) return 10 * s + x;
            }
        }
        return NONE;
    }

    int group(int g, int v) {
        if (!in(g, 5)) return NONE;
        if (!in(v, 99)) return BAD;
        int was = votes[g];
        votes[g] = v;
        return was;
    }

    int offer(int set) {
        if (set < 1 || set > 63) return BAD;
        if (offers.size() >= 12) return FULL;
        Offer o = new Offer();
        for (int g = 0; g < 6; g++) {
            if ((set & 1 << g) != 0) o.groups.add(g);
        }
        offers.add(o);
        return offers.size() - 1;
    }

    private Offer offerOrNull(int o) {
        return in(o, offers.size() - 1) ? offers.get(o) : null;
    }

    int gets(int offer, int g, int worth) {
        Offer o = offerOrNull(offer);
        if (o == null || !o.groups.contains(g)) return NONE;
        if (!in(worth, 99)) return BAD;
        int was = o.worth[g];
        o.worth[g] = worth;
        return was;
    }

    private boolean wins(Offer o) {
        return o.groups.stream().mapToInt(g -> votes[g]).sum() > Arrays.stream(votes).sum() / 2.0;
    }

    private boolean beats(Offer w, Offer o) {
        return w != o && wins(w) && w.groups.stream().allMatch(g -> w.worth[g] > o.worth[g]);
    }

    int bargain(int offer, int what) {
        Offer o = offerOrNull(offer);
        if (o == null || !in(what, 1)) return NONE;
        boolean stable = wins(o) && offers.stream().noneMatch(w -> beats(w, o));
        return (what == 0 ? wins(o) : stable) ? 1 : 0;
    }

    int breaks(int offer) {
        Offer o = offerOrNull(offer);
        if (o == null || !wins(o)) return NONE;
        return offers.stream().filter(w -> beats(w, o)).findFirst().map(offers::indexOf).orElse(NONE);
    }

    int plank() {
        if (planks.size() >= 8) return FULL;
        planks.add(new Plank());
        return planks.size() - 1;
    }

    int amend(int p, int i, int word) {
        if (!in(p, planks.size() - 1) || !in(i, planks.get(p).words.size())) return NONE;
        if (!in(word, 999)) return BAD;
        if (planks.get(p).words.size() >= 12) return FULL;
        planks.get(p).words.add(i, word);
        return planks.get(p).words.size();
    }

    int strike(int p, int i, int n) {
        if (!in(p, planks.size() - 1) || !in(i, planks.get(p).words.size())) return NONE;
        if (n < 0 || (long) i + n > planks.get(p).words.size()) return BAD;
        planks.get(p).words.subList(i, i + n).clear();
        return planks.get(p).words.size();
    }

    private List<Integer> words() {
        List<Integer> all = new ArrayList<>();
        planks.stream().filter(p -> p.taken).forEach(p -> all.addAll(p.words));
        return all;
    }

    int platform(int i) {
        return in(i, words().size() - 1) ? words().get(i) : NONE;
    }

    int taken(int p) {
        return !in(p, planks.size() - 1) ? NONE : planks.get(p).taken ? 1 : 0;
    }

    int count(int what) {
        int[] all = {meetings.size(), seats.size(), rules.size(), pile.size(), ballots, over ? 1 : 0, nominee,
            allHalves(), undos.size(), planks.size(), offers.size(), words().size(), tape.length()};
        return in(what, 12) ? all[what] : NONE;
    }
}
