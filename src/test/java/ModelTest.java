import java.util.Random;

/** Mixed runs of just below 512 calls, the class beside the Model: all answers are the same. */
public final class ModelTest {
    private static final Due DUE = new Due();
    private static final String[] KEYS = {"plank", "seat", "appeal", "name", "close"};
    private static final String[] FIELDS = {"ballots", "seats", "planks", "depth"};

    private final Random dice;
    private final RollHall hall = new RollHall();
    private final Model model = new Model();
    private final int[] taste;
    private int calls = 0;

    private ModelTest(long seed) {
        dice = new Random(seed);
        // Each run has calls that it likes, so that some reach limits that an even mix never sees.
        taste = new int[34];
        for (int i = 0; i < taste.length; i++) {
            taste[i] = dice.nextInt(4) == 0 ? 12 : 1 + dice.nextInt(3);
        }
        taste[2] = taste[2] > 3 ? 3 : taste[2];
    }

    public static void main(String[] args) {
        int runs = args.length > 0 ? Integer.parseInt(args[0]) : 3000;
        for (int seed = 0; seed < runs; seed++) {
            new ModelTest(seed).run(seed);
        }
        DUE.end();
    }

    private void run(int seed) {
        // A text takes 9 calls at most, and the counts at the end 13.
        while (calls <= 512 - 9 - 13) {
            String where = "run " + seed + ", call " + calls + ": ";
            if (calls < 80 && dice.nextInt(2) == 0) {
                build(where);
            } else {
                call(where, pick());
            }
        }
        for (int what = 0; what < 13; what++) {
            DUE.is("run " + seed + ", count " + what, hall.count(what), model.count(what));
        }
    }

    private int pick() {
        int sum = 0;
        for (int t : taste) {
            sum += t;
        }
        int at = dice.nextInt(sum);
        int call = 0;
        while (at >= taste[call]) {
            at -= taste[call++];
        }
        return call;
    }

    /** A number of 0 .. most, at times one of the edges or far outside. */
    private int n(int most) {
        switch (dice.nextInt(40)) {
            case 0: return -1;
            case 1: return most + 1;
            case 2: return most;
            case 3: return new int[] {Integer.MIN_VALUE, Integer.MAX_VALUE, -2, 1000, -99, 64}[dice.nextInt(6)];
            default: return dice.nextInt(most + 1);
        }
    }

    /** A step that makes the hall fuller. */
    private void build(String where) {
        int[] steps = {0, 3, 3, 3, 5, 5, 5, 28, 29, 11, 23, 24, 25};
        call(where, steps[dice.nextInt(steps.length)]);
    }

    private String text() {
        StringBuilder text = new StringBuilder();
        text.append(KEYS[dice.nextInt(5)]).append(" rank ").append(dice.nextInt(10));
        text.append(" need ").append(dice.nextInt(4)).append(" of ").append(1 + dice.nextInt(5));
        if (dice.nextInt(2) == 0) {
            text.append(" if ").append(test());
            if (dice.nextInt(2) == 0) {
                text.append(" and ").append(test());
            }
        }
        if (dice.nextInt(5) == 0) {
            spoil(text);
        }
        return text.toString();
    }

    private String test() {
        int number = dice.nextInt(4) == 0 ? dice.nextInt(1000) : dice.nextInt(8);
        return FIELDS[dice.nextInt(4)] + "=<>".charAt(dice.nextInt(3)) + number;
    }

    private void spoil(StringBuilder text) {
        int at = dice.nextInt(text.length());
        switch (dice.nextInt(4)) {
            case 0: text.setLength(at); break;
            case 1: text.deleteCharAt(at); break;
            case 2: text.insert(at, " 019 =aif".charAt(dice.nextInt(9))); break;
            default: text.setCharAt(at, (char) dice.nextInt(256)); break;
        }
    }

    private void feedAndRead(String where) {
        String text = text();
        for (int at = 0; at < text.length(); at += 8) {
            int n = Math.min(8, text.length() - at);
            long w = dice.nextLong();
            for (int i = 0; i < n; i++) {
                w = w << 8 | text.charAt(at + i);
            }
            DUE.is(where + "feed", hall.feed(w, n), model.feed(w, n));
            calls++;
        }
        DUE.is(where + "rule of " + text, hall.rule(), model.rule());
    }

    /** The document does not say how a number below 0 is taken apart: none is dealt. */
    private int boundX() {
        int x = dice.nextInt(6) == 0 ? n(2200) : 100 * dice.nextInt(8) + dice.nextInt(8);
        return Math.max(x, 0);
    }

    /** The document says "another one", and not what a claim by the same MEETING is. */
    private int otherMeeting(int m) {
        int other = n(8);
        return other == m ? m + 1 : other;
    }

    private void call(String where, int which) {
        calls++;
        if (which < 10) {
            callSeats(where, which);
        } else if (which < 22) {
            callSession(where, which);
        } else {
            callPlanks(where, which);
        }
    }

    private void callSeats(String where, int which) {
        int a = n(7), b = n(29), c = n(8), m = n(8);
        switch (which) {
            case 0: {
                int above = dice.nextInt(2) == 0 ? -1 : c;
                int notice = dice.nextInt(3) == 0 ? n(99) : 5 + dice.nextInt(6);
                int roll = dice.nextInt(3) == 0 ? n(999) : 4 + dice.nextInt(6);
                DUE.is(where + "meeting", hall.meeting(a, above, notice, roll), model.meeting(a, above, notice, roll));
                break;
            }
            case 1: {
                int v = dice.nextInt(2) == 0 ? n(10) : n(1000);
                DUE.is(where + "law", hall.law(a / 4, v), model.law(a / 4, v));
                break;
            }
            case 2: DUE.is(where + "good", hall.good(b), model.good(b)); break;
            case 3: {
                int kind = n(5);
                int x = kind == 3 ? boundX() : kind == 4 ? otherMeeting(m) : kind < 3 ? n(100) / 100 : n(20);
                int state = dice.nextInt(2) == 0 ? n(2) : a;
                DUE.is(where + "seat " + kind + " " + x, hall.seat(kind, state, m, x), model.seat(kind, state, m, x));
                break;
            }
            case 4: DUE.is(where + "out", hall.out(b, a & 1), model.out(b, a & 1)); break;
            case 5: DUE.is(where + "like", hall.like(b, a), model.like(b, a)); break;
            case 6: DUE.is(where + "unlike", hall.unlike(b), model.unlike(b)); break;
            case 7: DUE.is(where + "credential", hall.credential(b), model.credential(b)); break;
            case 8: DUE.is(where + "about", hall.about(b, a), model.about(b, a)); break;
            default: DUE.is(where + "out", hall.out(b, a), model.out(b, a)); break;
        }
    }

    private void callSession(String where, int which) {
        int a = n(7), b = n(4);
        switch (which) {
            case 10: {
                long w = dice.nextLong();
                if (dice.nextInt(4) == 0) {
                    DUE.is(where + "feed", hall.feed(w, a), model.feed(w, a));
                }
                break;
            }
            case 11: feedAndRead(where); break;
            case 12: DUE.is(where + "force", hall.force(b), model.force(b)); break;
            case 13: case 14: {
                int key = dice.nextInt(25) == 0 ? 4 : b == 4 ? 2 : b;
                int number = key == 1 ? Math.max(n(59), 0) : key == 2 || key == 4 ? n(60) / 60 : a;
                DUE.is(where + "move " + key + " " + number, hall.move(key, number), model.move(key, number));
                break;
            }
            case 15: {
                int seats = model.count(1);
                int yes = dice.nextInt(20) == 0 ? dice.nextInt() : dice.nextInt() & (1 << seats) - 1;
                yes |= dice.nextInt(2) == 0 ? dice.nextInt() & (1 << seats) - 1 : 0;
                DUE.is(where + "vote " + yes, hall.vote(yes), model.vote(yes));
                break;
            }
            case 16: DUE.is(where + "motion", hall.motion(a, b), model.motion(a, b)); break;
            case 17: {
                int name = n(8) - 1;
                DUE.is(where + "bind " + a + " " + name, hall.bind(a, name), model.bind(a, name));
                break;
            }
            case 18: DUE.is(where + "release", hall.release(a, b), model.release(a, b)); break;
            case 19: DUE.is(where + "ballot", hall.ballot(), model.ballot()); break;
            case 20: DUE.is(where + "had", hall.had(a), model.had(a)); break;
            default: DUE.is(where + "foresee", hall.foresee(), model.foresee()); break;
        }
    }

    private void callPlanks(String where, int which) {
        int a = n(7), b = n(11), c = n(5);
        switch (which) {
            case 22: DUE.is(where + "needs", hall.needs(), model.needs()); break;
            case 23: DUE.is(where + "group", hall.group(c, b), model.group(c, b)); break;
            case 24: DUE.is(where + "offer", hall.offer(8 * a + c), model.offer(8 * a + c)); break;
            case 25: DUE.is(where + "gets", hall.gets(b, c, a), model.gets(b, c, a)); break;
            case 26: DUE.is(where + "bargain", hall.bargain(b, a & 1), model.bargain(b, a & 1)); break;
            case 27: DUE.is(where + "breaks", hall.breaks(b), model.breaks(b)); break;
            case 28: DUE.is(where + "plank", hall.plank(), model.plank()); break;
            case 29: {
                int word = n(999);
                DUE.is(where + "amend", hall.amend(a, c, word), model.amend(a, c, word));
                break;
            }
            case 30: DUE.is(where + "strike", hall.strike(a, c, b / 2), model.strike(a, c, b / 2)); break;
            case 31: DUE.is(where + "platform", hall.platform(b), model.platform(b)); break;
            case 32: DUE.is(where + "taken", hall.taken(a), model.taken(a)); break;
            default: {
                if (dice.nextInt(3) == 0) {
                    DUE.is(where + "turned", hall.turned(), model.turned());
                } else {
                    DUE.is(where + "count", hall.count(b), model.count(b));
                }
                break;
            }
        }
    }
}
