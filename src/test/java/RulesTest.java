/** Promises 11 to 13: feed, rule, force. */
public final class RulesTest {
    private static final Due DUE = new Due();

    public static void main(String[] args) {
        feedTakesTheLowestBytes();
        feedRefuses();
        rulesAreNumbered();
        everyFaultHasItsPlace();
        tooEarlyEndsAreFaults();
        onlyAsciiWillDo();
        aReadTapeIsEmpty();
        rulesFillUp();
        fullHasNoEyeForTheTape();
        forceRefuses();
        theGreatestNumberCounts();
        testsLookAtNow();
        testsHoldTogether();
        DUE.end();
    }

    private static void feedTakesTheLowestBytes() {
        RollHall hall = new RollHall();
        DUE.is("one byte of many", hall.feed(0x7878787878787861L, 1), 1);
        DUE.is("the highest first", hall.feed(0x7878787870706561L, 4), 5);
        DUE.is("appea ends too early", hall.rule(), -10 - 5);
        hall.feed('a', 1);
        hall.feed(0x61656070L, 4);
        DUE.is("aae is no rule from place 1 on", hall.rule(), -10 - 1);
        DUE.is("whole", Due.rule(hall, "appeal rank 0 need 0 of 1"), 0);
    }

    private static void feedRefuses() {
        RollHall hall = new RollHall();
        DUE.is("n 0", hall.feed(1, 0), RollHall.BAD);
        DUE.is("n 9", hall.feed(1, 9), RollHall.BAD);
        DUE.is("n -1", hall.feed(1, -1), RollHall.BAD);
        for (int i = 1; i <= 14; i++) {
            DUE.is("feed " + i, hall.feed(-1L, 8), 8 * i);
        }
        DUE.is("to 119", hall.feed(-1L, 7), 119);
        DUE.is("beyond", hall.feed(-1L, 2), RollHall.FULL);
        DUE.is("bad ahead of full", hall.feed(-1L, 9), RollHall.BAD);
        DUE.is("count", hall.count(12), 119);
        DUE.is("to 120", hall.feed(-1L, 1), 120);
        DUE.is("full", hall.feed(-1L, 1), RollHall.FULL);
        DUE.is("no rule", hall.rule(), -10);
        DUE.is("empty", hall.count(12), 0);
    }

    private static void rulesAreNumbered() {
        RollHall hall = new RollHall();
        String[] texts = {
            "plank rank 0 need 0 of 1", "seat rank 9 need 9 of 9", "appeal rank 1 need 9 of 1",
            "name rank 2 need 1 of 2 if ballots=0", "close rank 3 need 1 of 2 if seats<000",
            "close rank 3 need 1 of 2 if planks>999 and depth=12",
            "close rank 9 need 1 of 2 if ballots>3 and depth<2"};
        for (int i = 0; i < texts.length; i++) {
            DUE.is(texts[i], Due.rule(hall, texts[i]), i);
        }
        DUE.is("count", hall.count(2), texts.length);
    }

    private static void everyFaultHasItsPlace() {
        String good = "close rank 9 need 1 of 2 if ballots>312 and depth<214";
        for (int i = 0; i < good.length(); i++) {
            String text = good.substring(0, i) + "~" + good.substring(i + 1);
            DUE.is(text, Due.rule(new RollHall(), text), -10 - i);
        }
        fault("Close rank 9 need 1 of 2", 0);
        fault(" close rank 9 need 1 of 2", 0);
        fault("close  rank 9 need 1 of 2", 6);
        fault("close rank : need 1 of 2", 11);
        fault("close rank / need 1 of 2", 11);
        fault("close rank 12 need 1 of 2", 12);
        fault("close rank 1 need 10 of 2", 19);
        fault("close rank 1 need 1 of 0", 23);
        fault("close rank 1 need 1 of 10", 24);
        fault("seats rank 1 need 1 of 1", 4);
        fault("close rank 1 need 1 of 2 and depth=1", 25);
        fault("close rank 1 need 1 of 2 if seat=1", 32);
        fault("close rank 1 need 1 of 2 if depth =1", 33);
        fault("close rank 1 need 1 of 2 if depth= 1", 34);
        fault("close rank 1 need 1 of 2 if depth==1", 34);
        fault("close rank 1 need 1 of 2 if depth=-1", 34);
        fault("close rank 1 need 1 of 2 if depth=1234", 37);
        fault("close rank 1 need 1 of 2 if depth=1 if depth=2", 36);
        fault("close rank 1 need 1 of 2 if depth=1 and depth=1 and depth=1", 47);
        fault("close rank 1 need 1 of 2 if depth=1 and depth=1 ", 47);
        fault("close rank 1 need 1 of 2 if depth=1 and depth=1234", 49);
    }

    private static void tooEarlyEndsAreFaults() {
        String good = "appeal rank 9 need 1 of 2 if ballots>31 and planks=2";
        for (int n = 0; n < good.length(); n++) {
            String text = good.substring(0, n);
            boolean isRule = n == 25 || n == 38 || n == 39;
            DUE.is(text, Due.rule(new RollHall(), text), isRule ? 0 : -10 - n);
        }
    }

    private static void onlyAsciiWillDo() {
        fault("close rank " + (char) ('9' + 128) + " need 1 of 2", 11);
        fault("close" + (char) 0 + "rank 9 need 1 of 2", 5);
        fault("close rank 9 need 1 of 2" + (char) 0, 24);
        fault("close rank 9 need 1 of 2" + (char) 255, 24);
        fault((char) 255 + "", 0);
    }

    private static void fault(String text, int place) {
        RollHall hall = new RollHall();
        DUE.is(text, Due.rule(hall, text), -10 - place);
        DUE.is("empty behind " + text, hall.count(12), 0);
        DUE.is("no rule by " + text, hall.count(2), 0);
    }

    private static void aReadTapeIsEmpty() {
        RollHall hall = new RollHall();
        Due.rule(hall, "plank rank 0 need 0 of 1");
        DUE.is("empty", hall.count(12), 0);
        DUE.is("an empty tape", hall.rule(), -10);
        DUE.is("count", hall.count(2), 1);
    }

    private static void rulesFillUp() {
        RollHall hall = new RollHall();
        for (int i = 0; i < 10; i++) {
            DUE.is("rule " + i, Due.rule(hall, "plank rank " + i + " need 0 of 1 if depth>1 and depth<9"), i);
        }
        DUE.is("the 11th", Due.rule(hall, "seat rank 1 need 0 of 1 if depth=0 and depth=0"), RollHall.FULL);
        DUE.is("the tape is as it was", hall.count(12), 46);
        DUE.is("full again", hall.rule(), RollHall.FULL);
        DUE.is("none came", hall.count(2), 10);
        DUE.is("no seat rule", hall.force(1), RollHall.NONE);
        hall.feed('x', 1);
        DUE.is("full ahead of the fault", hall.rule(), RollHall.FULL);
        DUE.is("the faulty tape is as it was", hall.count(12), 47);
        DUE.is("bytes come behind it", hall.feed('x', 1), 48);
        DUE.is("the rows are whole", hall.force(0), RollHall.NONE);
    }

    private static void fullHasNoEyeForTheTape() {
        RollHall hall = new RollHall();
        for (int i = 0; i < 10; i++) {
            Due.rule(hall, "plank rank " + i + " need 0 of 1");
        }
        DUE.is("an empty tape", hall.rule(), RollHall.FULL);
        DUE.is("it stays empty", hall.count(12), 0);
        DUE.is("the last rule is whole", hall.force(0), 9);
        DUE.is("a tape that ends too early", Due.rule(hall, "plank rank"), RollHall.FULL);
        DUE.is("it has its bytes", hall.count(12), 10);
        DUE.is("the rest comes behind", Due.rule(hall, " 1 need 0 of 1"), RollHall.FULL);
        DUE.is("all its bytes", hall.count(12), 24);
        DUE.is("ten", hall.count(2), 10);
    }

    private static void forceRefuses() {
        RollHall hall = new RollHall();
        for (int key = -1; key <= 5; key++) {
            DUE.is("key " + key, hall.force(key), RollHall.NONE);
        }
        Due.rule(hall, "plank rank 1 need 1 of 2");
        DUE.is("plank", hall.force(0), 0);
        DUE.is("seat", hall.force(1), RollHall.NONE);
    }

    private static void theGreatestNumberCounts() {
        RollHall hall = new RollHall();
        String[] keys = {"plank", "seat", "appeal", "name", "close"};
        for (int key = 0; key < 5; key++) {
            Due.rule(hall, keys[key] + " rank 9 need 1 of 2");
        }
        for (int key = 0; key < 5; key++) {
            DUE.is(keys[key], hall.force(key), key);
        }
        Due.rule(hall, "seat rank 1 need 1 of 2");
        Due.rule(hall, "seat rank 2 need 1 of 2 if ballots>0");
        DUE.is("the later one", hall.force(1), 5);
        hall.ballot();
        DUE.is("the latest one that holds", hall.force(1), 6);
    }

    private static void testsLookAtNow() {
        RollHall hall = Due.hall();
        Due.rule(hall, "plank rank 1 need 0 of 1 if ballots=2");
        Due.rule(hall, "seat rank 2 need 0 of 1 if seats>1");
        Due.rule(hall, "appeal rank 3 need 0 of 1 if planks=1");
        Due.rule(hall, "name rank 4 need 0 of 1 if depth=1");
        Due.rule(hall, "close rank 5 need 0 of 1 if depth<1");
        expectForce(hall, "at first", 4);
        hall.ballot();
        hall.ballot();
        expectForce(hall, "two ballots", 0, 4);
        hall.ballot();
        expectForce(hall, "three ballots", 4);
        hall.seat(1, 0, 0, 0);
        hall.seat(1, 0, 0, 0);
        expectForce(hall, "two seats", 1, 4);
        hall.out(0, 1);
        expectForce(hall, "one seat votes", 4);
        hall.plank();
        hall.plank();
        expectForce(hall, "planks that are not taken", 4);
        hall.move(0, 1);
        expectForce(hall, "one is open", 3);
        hall.vote(2);
        expectForce(hall, "one is taken", 2, 4);
        hall.move(0, 0);
        hall.vote(2);
        expectForce(hall, "two are taken", 4);
    }

    private static void expectForce(RollHall hall, String when, int... keys) {
        for (int key = 0; key < 5; key++) {
            int want = RollHall.NONE;
            for (int k : keys) {
                want = k == key ? key : want;
            }
            DUE.is(when + ", force " + key, hall.force(key), want);
        }
    }

    private static void testsHoldTogether() {
        RollHall hall = new RollHall();
        Due.rule(hall, "name rank 1 need 0 of 1 if ballots>0 and ballots<3");
        int[] want = {-1, 0, 0, -1};
        for (int i = 0; i < want.length; i++) {
            DUE.is("after " + i, hall.force(3), want[i]);
            hall.ballot();
        }
        RollHall many = new RollHall();
        Due.rule(many, "name rank 1 need 0 of 1 if ballots>117");
        Due.rule(many, "seat rank 1 need 0 of 1 if ballots=12");
        Due.rule(many, "close rank 1 need 0 of 1 if ballots=012");
        for (int i = 0; i < 120; i++) {
            DUE.is("ballots>117 after " + i, many.force(3), i > 117 ? 0 : -1);
            DUE.is("ballots=12 after " + i, many.force(1), i == 12 ? 1 : -1);
            DUE.is("ballots=012 after " + i, many.force(4), i == 12 ? 2 : -1);
            many.ballot();
        }
    }
}
