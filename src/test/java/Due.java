/** What the tests share: answers that are due, texts for THE TAPE, and halls to begin with. */
final class Due {
    private int wrong = 0;
    private int asked = 0;

    void is(String call, long got, long want) {
        asked++;
        if (got != want) {
            wrong++;
            System.out.println(call + " answered " + got + ", due is " + want);
        }
    }

    /** Tells how it went; ends the run with 1 if an answer was wrong. */
    void end() {
        System.out.println(asked + " answers, " + wrong + " of them wrong");
        if (wrong != 0 || asked == 0) {
            System.exit(1);
        }
    }

    static void feed(RollHall hall, String text) {
        for (int at = 0; at < text.length(); at += 8) {
            int n = Math.min(8, text.length() - at);
            long w = 0;
            for (int i = 0; i < n; i++) {
                w = w << 8 | text.charAt(at + i) & 255;
            }
            hall.feed(w, n);
        }
    }

    static int rule(RollHall hall, String text) {
        feed(hall, text);
        return hall.rule();
    }

    /** A hall with one good MEETING, 0. */
    static RollHall hall() {
        RollHall hall = new RollHall();
        hall.meeting(0, RollHall.NONE, 7, 5);
        return hall;
    }

    /** A WHOLE SEAT of a STATE more, with LIKES. */
    static int whole(RollHall hall, int state, int... names) {
        return seat(hall, 0, state, 0, names);
    }

    static int seat(RollHall hall, int kind, int state, int x, int... names) {
        int s = hall.seat(kind, state, 0, x);
        for (int name : names) {
            hall.like(s, name);
        }
        return s;
    }
}
