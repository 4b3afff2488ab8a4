/** Promises 24 to 28: group, offer, gets, bargain, breaks. */
public final class BargainsTest {
    private static final Due DUE = new Due();

    public static void main(String[] args) {
        groupAnswersAndRefuses();
        offersFillUp();
        getsAnswersAndRefuses();
        winsNeedsMoreThanHalf();
        stableNeedsNoBreaker();
        equalWorthBreaksNothing();
        losersBreakNothing();
        bargainRefuses();
        DUE.end();
    }

    private static void groupAnswersAndRefuses() {
        RollHall hall = new RollHall();
        DUE.is("0 at first", hall.group(5, 99), 0);
        DUE.is("99", hall.group(5, 0), 99);
        DUE.is("group 6, votes bad", hall.group(6, 100), RollHall.NONE);
        DUE.is("group -1", hall.group(-1, 0), RollHall.NONE);
        DUE.is("votes 100", hall.group(0, 100), RollHall.BAD);
        DUE.is("votes -1", hall.group(0, -1), RollHall.BAD);
        DUE.is("as it was", hall.group(0, 1), 0);
    }

    private static void offersFillUp() {
        RollHall hall = new RollHall();
        DUE.is("no group", hall.offer(0), RollHall.BAD);
        DUE.is("group 6", hall.offer(64), RollHall.BAD);
        DUE.is("below", hall.offer(-1), RollHall.BAD);
        for (int i = 0; i < 12; i++) {
            DUE.is("offer " + i, hall.offer(63 - i), i);
        }
        DUE.is("bad ahead of full", hall.offer(64), RollHall.BAD);
        DUE.is("the 13th", hall.offer(1), RollHall.FULL);
        DUE.is("count", hall.count(10), 12);
    }

    private static void getsAnswersAndRefuses() {
        RollHall hall = new RollHall();
        hall.offer(33);
        hall.offer(63);
        DUE.is("0 at first", hall.gets(0, 5, 99), 0);
        DUE.is("99", hall.gets(0, 5, 0), 99);
        DUE.is("each its own", hall.gets(1, 5, 7), 0);
        DUE.is("not in it", hall.gets(0, 1, 100), RollHall.NONE);
        DUE.is("group 6", hall.gets(0, 6, 0), RollHall.NONE);
        DUE.is("group -1", hall.gets(0, -1, 0), RollHall.NONE);
        DUE.is("group 32 is not group 0", hall.gets(0, 32, 0), RollHall.NONE);
        DUE.is("offer 2", hall.gets(2, 0, 0), RollHall.NONE);
        DUE.is("offer -1", hall.gets(-1, 0, 0), RollHall.NONE);
        DUE.is("worth 100", hall.gets(0, 0, 100), RollHall.BAD);
        DUE.is("worth -1", hall.gets(0, 0, -1), RollHall.BAD);
        DUE.is("as it was", hall.gets(0, 0, 1), 0);
    }

    private static void winsNeedsMoreThanHalf() {
        RollHall hall = new RollHall();
        hall.offer(3);
        DUE.is("nothing of nothing", hall.bargain(0, 0), 0);
        DUE.is("not stable", hall.bargain(0, 1), 0);
        hall.group(0, 10);
        hall.group(1, 11);
        hall.group(4, 21);
        DUE.is("just half", hall.bargain(0, 0), 0);
        hall.group(4, 20);
        DUE.is("more", hall.bargain(0, 0), 1);
        DUE.is("stable alone", hall.bargain(0, 1), 1);
        DUE.is("nothing breaks it", hall.breaks(0), RollHall.NONE);
    }

    /** Three GROUPS of one vote each, and each pair's OFFER: 0 of 0, 1; 1 of 1, 2; 2 of 0, 2. */
    private static RollHall pairs() {
        RollHall hall = new RollHall();
        hall.group(0, 1);
        hall.group(1, 1);
        hall.group(2, 1);
        hall.offer(3);
        hall.offer(6);
        hall.offer(5);
        return hall;
    }

    private static void stableNeedsNoBreaker() {
        RollHall hall = pairs();
        hall.gets(0, 0, 4);
        hall.gets(0, 1, 2);
        hall.gets(1, 1, 3);
        hall.gets(1, 2, 1);
        hall.gets(2, 0, 5);
        hall.gets(2, 2, 1);
        DUE.is("0 is broken", hall.bargain(0, 1), 0);
        DUE.is("by the first, 1", hall.breaks(0), 1);
        DUE.is("1 is not: 2 gets as much", hall.bargain(1, 1), 1);
        DUE.is("2 is not", hall.bargain(2, 1), 1);
        hall.gets(2, 2, 2);
        DUE.is("1 is broken by 2", hall.breaks(1), 2);
        DUE.is("0 by 1 still", hall.breaks(0), 1);
        hall.gets(1, 1, 2);
        DUE.is("0 by 2 now", hall.breaks(0), 2);
    }

    private static void equalWorthBreaksNothing() {
        RollHall hall = pairs();
        for (int offer = 0; offer < 3; offer++) {
            DUE.is("all 0, stable " + offer, hall.bargain(offer, 1), 1);
            DUE.is("all 0, breaks " + offer, hall.breaks(offer), RollHall.NONE);
        }
    }

    private static void losersBreakNothing() {
        RollHall hall = pairs();
        hall.offer(1);
        hall.gets(3, 0, 99);
        DUE.is("a loser breaks nothing", hall.breaks(0), RollHall.NONE);
        DUE.is("a loser is not stable", hall.bargain(3, 1), 0);
        hall.gets(0, 0, 1);
        hall.gets(0, 1, 1);
        DUE.is("2 is broken by 0? group 0 more, group 1 has none there", hall.breaks(2), 0);
        DUE.is("what breaks a loser", hall.breaks(3), RollHall.NONE);
    }

    private static void bargainRefuses() {
        RollHall hall = pairs();
        DUE.is("offer 3", hall.bargain(3, 0), RollHall.NONE);
        DUE.is("offer -1", hall.bargain(-1, 0), RollHall.NONE);
        DUE.is("what 2", hall.bargain(0, 2), RollHall.NONE);
        DUE.is("what -1", hall.bargain(0, -1), RollHall.NONE);
        DUE.is("breaks 3", hall.breaks(3), RollHall.NONE);
        DUE.is("breaks -1", hall.breaks(-1), RollHall.NONE);
    }
}
