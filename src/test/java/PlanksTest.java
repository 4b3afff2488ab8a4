/** Promises 29 to 33: plank, amend, strike, platform, taken. */
public final class PlanksTest {
    private static final Due DUE = new Due();

    public static void main(String[] args) {
        planksFillUp();
        amendPutsAhead();
        amendRefuses();
        strikeTakesOut();
        strikeRefuses();
        thePlatformIsByNumbers();
        DUE.end();
    }

    private static void take(RollHall hall, int p) {
        Due.rule(hall, "plank rank 0 need 0 of 1");
        hall.move(0, p);
        hall.vote(0);
    }

    private static void wordsAre(RollHall hall, String when, int... want) {
        DUE.is(when + ", words", hall.count(11), want.length);
        for (int i = 0; i < want.length; i++) {
            DUE.is(when + ", word " + i, hall.platform(i), want[i]);
        }
        DUE.is(when + ", behind", hall.platform(want.length), RollHall.NONE);
        DUE.is(when + ", ahead", hall.platform(-1), RollHall.NONE);
    }

    private static void planksFillUp() {
        RollHall hall = new RollHall();
        DUE.is("taken, none", hall.taken(0), RollHall.NONE);
        for (int p = 0; p < 8; p++) {
            DUE.is("plank " + p, hall.plank(), p);
            DUE.is("not taken " + p, hall.taken(p), 0);
        }
        DUE.is("the 9th", hall.plank(), RollHall.FULL);
        DUE.is("count", hall.count(9), 8);
        DUE.is("taken 8", hall.taken(8), RollHall.NONE);
        DUE.is("taken -1", hall.taken(-1), RollHall.NONE);
    }

    private static void amendPutsAhead() {
        RollHall hall = new RollHall();
        hall.plank();
        take(hall, 0);
        DUE.is("first", hall.amend(0, 0, 10), 1);
        DUE.is("behind", hall.amend(0, 1, 30), 2);
        DUE.is("between", hall.amend(0, 1, 20), 3);
        DUE.is("ahead", hall.amend(0, 0, 0), 4);
        DUE.is("behind all", hall.amend(0, 4, 999), 5);
        wordsAre(hall, "amended", 0, 10, 20, 30, 999);
    }

    private static void amendRefuses() {
        RollHall hall = new RollHall();
        hall.plank();
        hall.plank();
        DUE.is("plank 2", hall.amend(2, 0, 0), RollHall.NONE);
        DUE.is("plank -1", hall.amend(-1, 0, 0), RollHall.NONE);
        DUE.is("i 1, word bad", hall.amend(0, 1, -1), RollHall.NONE);
        DUE.is("i -1", hall.amend(0, -1, 0), RollHall.NONE);
        DUE.is("word -1", hall.amend(0, 0, -1), RollHall.BAD);
        DUE.is("word 1000", hall.amend(0, 0, 1000), RollHall.BAD);
        for (int n = 1; n <= 12; n++) {
            DUE.is("word " + n, hall.amend(0, 0, n), n);
        }
        DUE.is("none ahead of full", hall.amend(0, 13, 0), RollHall.NONE);
        DUE.is("bad ahead of full", hall.amend(0, 12, 1000), RollHall.BAD);
        DUE.is("the 13th, behind", hall.amend(0, 12, 0), RollHall.FULL);
        DUE.is("the 13th, ahead", hall.amend(0, 0, 0), RollHall.FULL);
        DUE.is("the next one is empty", hall.amend(1, 0, 500), 1);
        take(hall, 0);
        take(hall, 1);
        wordsAre(hall, "full", 12, 11, 10, 9, 8, 7, 6, 5, 4, 3, 2, 1, 500);
    }

    private static void strikeTakesOut() {
        RollHall hall = new RollHall();
        hall.plank();
        take(hall, 0);
        for (int i = 0; i < 12; i++) {
            hall.amend(0, i, i);
        }
        DUE.is("from the middle", hall.strike(0, 2, 3), 9);
        wordsAre(hall, "middle", 0, 1, 5, 6, 7, 8, 9, 10, 11);
        DUE.is("none", hall.strike(0, 4, 0), 9);
        DUE.is("none at the end", hall.strike(0, 9, 0), 9);
        DUE.is("the last", hall.strike(0, 8, 1), 8);
        DUE.is("the first two", hall.strike(0, 0, 2), 6);
        wordsAre(hall, "both ends", 5, 6, 7, 8, 9, 10);
        DUE.is("all", hall.strike(0, 0, 6), 0);
        wordsAre(hall, "all");
        DUE.is("none of none", hall.strike(0, 0, 0), 0);
    }

    private static void strikeRefuses() {
        RollHall hall = new RollHall();
        hall.plank();
        hall.amend(0, 0, 1);
        hall.amend(0, 0, 2);
        DUE.is("plank 1", hall.strike(1, 0, -1), RollHall.NONE);
        DUE.is("plank -1", hall.strike(-1, 0, 0), RollHall.NONE);
        DUE.is("i 3, n bad", hall.strike(0, 3, -1), RollHall.NONE);
        DUE.is("i -1", hall.strike(0, -1, 0), RollHall.NONE);
        DUE.is("n -1", hall.strike(0, 0, -1), RollHall.BAD);
        DUE.is("beyond", hall.strike(0, 1, 2), RollHall.BAD);
        DUE.is("one at the end", hall.strike(0, 2, 1), RollHall.BAD);
        DUE.is("far beyond", hall.strike(0, 2, Integer.MAX_VALUE), RollHall.BAD);
        DUE.is("as it was", hall.strike(0, 0, 0), 2);
    }

    private static void thePlatformIsByNumbers() {
        RollHall hall = new RollHall();
        for (int p = 0; p < 4; p++) {
            hall.plank();
            for (int i = 0; i < p; i++) {
                hall.amend(p, i, 100 * p + i);
            }
        }
        wordsAre(hall, "none taken");
        take(hall, 3);
        wordsAre(hall, "3", 300, 301, 302);
        take(hall, 1);
        take(hall, 0);
        wordsAre(hall, "0, 1 and 3", 100, 300, 301, 302);
        hall.amend(1, 0, 7);
        wordsAre(hall, "amended when taken", 7, 100, 300, 301, 302);
        take(hall, 3);
        wordsAre(hall, "3 given back", 7, 100);
        DUE.is("far", hall.platform(Integer.MAX_VALUE), RollHall.NONE);
        DUE.is("far below", hall.platform(Integer.MIN_VALUE), RollHall.NONE);
    }
}
