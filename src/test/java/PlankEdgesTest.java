/** The edges of PLANKS: part 5 of the document's terms, and promises 29 to 33. */
public final class PlankEdgesTest {
    private static final int NONE = RollHall.NONE, BAD = RollHall.BAD, FULL = RollHall.FULL;
    private static final int LEAST = Integer.MIN_VALUE, GREATEST = Integer.MAX_VALUE;

    public static void main(String[] args) throws ReflectiveOperationException {
        Edges.run(PlankEdgesTest.class);
    }

    /** PLANK 0 with the WORDS 10, 11, 12; PLANK 1 without; neither TAKEN. A plank needs nobody. */
    private static void begin(RollHall hall) {
        Due.rule(hall, "plank rank 0 need 0 of 1");
        hall.plank();
        hall.plank();
        for (int i = 0; i < 3; i++) {
            hall.amend(0, i, 10 + i);
        }
    }

    /** PLANK 0 with 12 WORDS, 0 .. 11; PLANK 1 with one, 500. */
    private static void fillWords(RollHall hall) {
        Due.rule(hall, "plank rank 0 need 0 of 1");
        hall.plank();
        hall.plank();
        for (int i = 0; i < 12; i++) {
            hall.amend(0, i, i);
        }
        hall.amend(1, 0, 500);
    }

    private static void take(RollHall hall, int p) {
        hall.move(0, p);
        hall.vote(0);
    }

    private static RollHall begun() {
        RollHall hall = new RollHall();
        begin(hall);
        take(hall, 0);
        return hall;
    }

    private static void platformIs(RollHall hall, String when, int... want) {
        Edges.due(when + ", how many", hall.count(11), want.length);
        for (int i = 0; i < want.length; i++) {
            Edges.due(when + ", word " + i, hall.platform(i), want[i]);
        }
        Edges.due(when + ", behind", hall.platform(want.length), NONE);
    }

    // "PLANKS are numbered from 0 on, 8 at most"
    private static void eightPlanksAtMost() {
        RollHall hall = new RollHall();
        for (int p = 0; p < 8; p++) {
            Edges.due("plank " + p, hall.plank(), p);
        }
        Edges.due("how many", hall.count(9), 8);
        Edges.refused("the 9th", h -> {
            for (int p = 0; p < 8; p++) {
                h.plank();
            }
        }, RollHall::plank, FULL);
        Edges.due("the last has room", hall.amend(7, 0, 999), 1);
    }

    // plank: "without WORDS, not TAKEN"
    private static void aNewPlankIsBare() {
        RollHall hall = new RollHall();
        for (int p = 0; p < 8; p++) {
            hall.plank();
            Edges.due("not taken " + p, hall.taken(p), 0);
            Edges.due("no words " + p, hall.strike(p, 0, 0), 0);
        }
    }

    // "a row of WORDS (0 .. 999)"
    private static void wordsAreZeroTo999() {
        RollHall hall = begun();
        Edges.due("word 0", hall.amend(0, 3, 0), 4);
        Edges.due("word 999", hall.amend(0, 4, 999), 5);
        platformIs(hall, "both", 10, 11, 12, 0, 999);
        for (int word : new int[] {-1, 1000, LEAST, GREATEST}) {
            Edges.refused("word " + word, PlankEdgesTest::begin, h -> h.amend(0, 0, word), BAD);
            Edges.refused("word " + word + " behind all", PlankEdgesTest::begin, h -> h.amend(0, 3, word), BAD);
        }
    }

    // "12 at most"
    private static void twelveWordsAtMost() {
        RollHall hall = new RollHall();
        hall.plank();
        for (int n = 1; n <= 12; n++) {
            Edges.due("word " + n, hall.amend(0, n - 1, n), n);
        }
        for (int i : new int[] {0, 5, 11, 12}) {
            Edges.refused("the 13th at " + i, PlankEdgesTest::fillWords, h -> h.amend(0, i, 7), FULL);
        }
        hall.strike(0, 0, 1);
        Edges.due("room again", hall.amend(0, 11, 13), 12);
    }

    /** A full PLANK reaches just up to the next one's WORDS. */
    private static void fullPlanksDoNotTouch() {
        RollHall hall = new RollHall();
        fillWords(hall);
        take(hall, 0);
        take(hall, 1);
        platformIs(hall, "full", 0, 1, 2, 3, 4, 5, 6, 7, 8, 9, 10, 11, 500);
        hall.strike(0, 0, 1);
        platformIs(hall, "one less", 1, 2, 3, 4, 5, 6, 7, 8, 9, 10, 11, 500);
        hall.amend(0, 0, 77);
        platformIs(hall, "full again", 77, 1, 2, 3, 4, 5, 6, 7, 8, 9, 10, 11, 500);
    }

    /** In each of eight full PLANKS a WORD is struck and mended: the others keep theirs. */
    private static void eachPlankHasItsOwnWords() {
        for (int p = 0; p < 8; p++) {
            for (int i = 0; i < 12; i += 11) {
                RollHall hall = eightFull();
                Edges.due("strike " + i + " of plank " + p, hall.strike(p, i, 1), 11);
                Edges.due("amend " + i + " of plank " + p, hall.amend(p, i, 999), 12);
                int at = 12 * p + i;
                for (int k = 0; k < 96; k++) {
                    Edges.due("plank " + p + ", word " + k, hall.platform(k), k == at ? 999 : k);
                }
            }
        }
    }

    private static void theMiddleOfAFullPlankIsStruck() {
        for (int p = 0; p < 8; p++) {
            RollHall hall = eightFull();
            Edges.due("strike of plank " + p, hall.strike(p, 5, 4), 8);
            for (int k = 0; k < 92; k++) {
                Edges.due("plank " + p + ", word " + k, hall.platform(k), k < 12 * p + 5 ? k : k + 4);
            }
            Edges.due("behind", hall.platform(92), NONE);
        }
    }

    /** Eight PLANKS of twelve WORDS each, all TAKEN: 96 WORDS, each as its place. */
    private static RollHall eightFull() {
        RollHall hall = new RollHall();
        Due.rule(hall, "plank rank 0 need 0 of 1");
        for (int p = 0; p < 8; p++) {
            hall.plank();
            take(hall, p);
            for (int i = 0; i < 12; i++) {
                hall.amend(p, i, 12 * p + i);
            }
        }
        return hall;
    }

    // amend: "ahead of its i-th"
    private static void aWordComesAheadOfTheIth() {
        for (int i = 0; i < 3; i++) {
            RollHall hall = begun();
            Edges.due("amend at " + i, hall.amend(0, i, 77), 4);
            int[] want = new int[4];
            for (int k = 0; k < 4; k++) {
                want[k] = k < i ? 10 + k : k == i ? 77 : 9 + k;
            }
            platformIs(hall, "at " + i, want);
        }
    }

    // amend: "(as many as there are: behind all)"
    private static void atAsManyAsThereAreItComesBehindAll() {
        RollHall hall = begun();
        Edges.due("behind three", hall.amend(0, 3, 77), 4);
        platformIs(hall, "behind", 10, 11, 12, 77);
        take(hall, 1);
        Edges.due("behind none", hall.amend(1, 0, 5), 1);
        platformIs(hall, "of two planks", 10, 11, 12, 77, 5);
    }

    // amend: "NONE (i, too)"
    private static void amendIsWhereThereIsAPlace() {
        for (int i : new int[] {-1, 4, 12, LEAST, GREATEST}) {
            Edges.refused("i " + i, PlankEdgesTest::begin, h -> h.amend(0, i, 7), NONE);
        }
        Edges.refused("i 1 of none", PlankEdgesTest::begin, h -> h.amend(1, 1, 7), NONE);
        for (int p : new int[] {-1, 2, 8, LEAST, GREATEST}) {
            Edges.refused("plank " + p, PlankEdgesTest::begin, h -> h.amend(p, 0, 7), NONE);
        }
        Edges.refused("no plank at all", h -> { }, h -> h.amend(0, 0, 7), NONE);
    }

    // amend: "NONE (i, too); BAD; FULL", of several the first one told
    private static void ofAnAmendmentNoneThenBadThenFull() {
        Edges.refused("i 4, word 1000", PlankEdgesTest::begin, h -> h.amend(0, 4, 1000), NONE);
        Edges.refused("plank 2, word -1", PlankEdgesTest::begin, h -> h.amend(2, 0, -1), NONE);
        Edges.refused("i 13 of a full one", PlankEdgesTest::fillWords, h -> h.amend(0, 13, 7), NONE);
        Edges.refused("i -1 of a full one", PlankEdgesTest::fillWords, h -> h.amend(0, -1, 7), NONE);
        Edges.refused("word 1000 of a full one", PlankEdgesTest::fillWords, h -> h.amend(0, 0, 1000), BAD);
        Edges.refused("word -1 of a full one", PlankEdgesTest::fillWords, h -> h.amend(0, 12, -1), BAD);
    }

    // strike: "n WORDS of a PLANK from the i-th on are struck"
    private static void wordsAreStruckFromTheIth() {
        int[] all = {10, 11, 12};
        for (int i = 0; i <= 3; i++) {
            for (int n = 0; n <= 3 - i; n++) {
                RollHall hall = begun();
                Edges.due("strike " + n + " from " + i, hall.strike(0, i, n), 3 - n);
                int[] want = new int[3 - n];
                for (int k = 0; k < want.length; k++) {
                    want[k] = all[k < i ? k : k + n];
                }
                platformIs(hall, n + " from " + i, want);
            }
        }
    }

    private static void allTwelveAreStruck() {
        RollHall hall = new RollHall();
        fillWords(hall);
        take(hall, 0);
        take(hall, 1);
        Edges.due("all", hall.strike(0, 0, 12), 0);
        platformIs(hall, "the other's", 500);
        Edges.due("anew", hall.amend(0, 0, 3), 1);
        platformIs(hall, "anew", 3, 500);
    }

    // strike: "BAD: n below 0, beyond"
    private static void noMoreIsStruckThanThereIs() {
        for (int n : new int[] {-1, 4, 12, LEAST, GREATEST}) {
            Edges.refused("n " + n, PlankEdgesTest::begin, h -> h.strike(0, 0, n), BAD);
        }
        Edges.refused("3 from 1", PlankEdgesTest::begin, h -> h.strike(0, 1, 3), BAD);
        Edges.refused("2 from 2", PlankEdgesTest::begin, h -> h.strike(0, 2, 2), BAD);
        Edges.refused("all from 1, by a wrap-around", PlankEdgesTest::begin, h -> h.strike(0, 1, GREATEST), BAD);
        Edges.refused("-1 from 2", PlankEdgesTest::begin, h -> h.strike(0, 2, -1), BAD);
        Edges.refused("1 of none", PlankEdgesTest::begin, h -> h.strike(1, 0, 1), BAD);
    }

    // strike: "NONE (i, too)"
    private static void strikeIsWhereThereIsAPlace() {
        for (int i : new int[] {-1, 4, 12, LEAST, GREATEST}) {
            Edges.refused("i " + i, PlankEdgesTest::begin, h -> h.strike(0, i, 0), NONE);
            Edges.refused("none ahead of bad, i " + i, PlankEdgesTest::begin, h -> h.strike(0, i, -1), NONE);
        }
        for (int p : new int[] {-1, 2, 8, LEAST, GREATEST}) {
            Edges.refused("plank " + p, PlankEdgesTest::begin, h -> h.strike(p, 0, 0), NONE);
            Edges.refused("none ahead of bad, plank " + p, PlankEdgesTest::begin, h -> h.strike(p, 0, -1), NONE);
        }
        Edges.refused("no plank at all", h -> { }, h -> h.strike(0, 0, 0), NONE);
    }

    // "THE PLATFORM: the WORDS of all PLANKS that are TAKEN, by numbers"
    private static void thePlatformIsOfTakenPlanksByNumbers() {
        RollHall hall = new RollHall();
        begin(hall);
        hall.plank();
        hall.amend(2, 0, 30);
        hall.amend(1, 0, 20);
        platformIs(hall, "none is taken");
        take(hall, 2);
        platformIs(hall, "the last", 30);
        take(hall, 0);
        platformIs(hall, "the first ahead of it", 10, 11, 12, 30);
        take(hall, 1);
        platformIs(hall, "all", 10, 11, 12, 20, 30);
        hall.strike(1, 0, 1);
        platformIs(hall, "one without words", 10, 11, 12, 30);
        take(hall, 0);
        platformIs(hall, "the first given back", 30);
    }

    private static void thePlatformAtItsLongest() {
        RollHall hall = eightFull();
        Edges.due("how many", hall.count(11), 96);
        for (int i = 0; i < 96; i++) {
            Edges.due("word " + i, hall.platform(i), i);
        }
        Edges.due("behind", hall.platform(96), NONE);
    }

    // platform: "NONE"
    private static void platformIsOfWordsThatAreThere() {
        Edges.Steps taken = h -> {
            begin(h);
            take(h, 0);
        };
        for (int i : new int[] {-1, 3, LEAST, GREATEST}) {
            Edges.refused("i " + i, taken, h -> h.platform(i), NONE);
        }
        Edges.refused("nothing is taken", PlankEdgesTest::begin, h -> h.platform(0), NONE);
        Edges.refused("no plank at all", h -> { }, h -> h.platform(0), NONE);
    }

    // taken: "NONE"
    private static void takenIsOfPlanksThatAreThere() {
        for (int p : new int[] {-1, 2, 8, LEAST, GREATEST}) {
            Edges.refused("plank " + p, PlankEdgesTest::begin, h -> h.taken(p), NONE);
        }
        Edges.refused("no plank at all", h -> { }, h -> h.taken(0), NONE);
        RollHall hall = begun();
        Edges.due("one that is", hall.taken(0), 1);
        Edges.due("one that is not", hall.taken(1), 0);
    }

    private static void planksAreMendedBehindTheEnd() {
        RollHall hall = begun();
        Due.rule(hall, "close rank 0 need 0 of 1");
        hall.move(4, 0);
        hall.vote(0);
        Edges.due("over", hall.count(5), 1);
        Edges.due("amend", hall.amend(0, 0, 1), 4);
        Edges.due("strike", hall.strike(0, 1, 3), 1);
        Edges.due("plank", hall.plank(), 2);
        platformIs(hall, "over", 1);
    }

    private static void looksLeaveAllAsItWas() {
        Edges.noTrace("taken and platform", PlankEdgesTest::begin, h -> {
            h.taken(0);
            h.platform(0);
        });
    }
}
