/** Promises 2 to 4: meeting, law, good. */
public final class MeetingsTest {
    private static final Due DUE = new Due();

    public static void main(String[] args) {
        meetingsAreNumbered();
        meetingRefuses();
        refusalsComeInOrder();
        meetingsFillUp();
        goodNeedsNoticeAndRoll();
        goodNeedsTheChain();
        lawChangesWhatIsGood();
        lawRefuses();
        DUE.end();
    }

    private static void meetingsAreNumbered() {
        RollHall hall = new RollHall();
        DUE.is("first", hall.meeting(0, -1, 0, 0), 0);
        DUE.is("second, above 0", hall.meeting(7, 0, 99, 999), 1);
        DUE.is("third, above 1", hall.meeting(3, 1, 5, 5), 2);
        DUE.is("count", hall.count(0), 3);
    }

    private static void meetingRefuses() {
        RollHall hall = Due.hall();
        DUE.is("state -1", hall.meeting(-1, -1, 7, 5), RollHall.NONE);
        DUE.is("state 8", hall.meeting(8, -1, 7, 5), RollHall.NONE);
        DUE.is("above itself", hall.meeting(0, 1, 7, 5), RollHall.NONE);
        DUE.is("above -2", hall.meeting(0, -2, 7, 5), RollHall.NONE);
        DUE.is("notice -1", hall.meeting(0, -1, -1, 5), RollHall.BAD);
        DUE.is("notice 100", hall.meeting(0, -1, 100, 5), RollHall.BAD);
        DUE.is("roll -1", hall.meeting(0, -1, 7, -1), RollHall.BAD);
        DUE.is("roll 1000", hall.meeting(0, -1, 7, 1000), RollHall.BAD);
        DUE.is("least and greatest", hall.meeting(Integer.MIN_VALUE, Integer.MAX_VALUE, 0, 0), RollHall.NONE);
        DUE.is("count is as it was", hall.count(0), 1);
    }

    private static void refusalsComeInOrder() {
        RollHall hall = new RollHall();
        for (int i = 0; i < 24; i++) {
            hall.meeting(0, -1, 7, 5);
        }
        DUE.is("none ahead of bad and full", hall.meeting(8, -1, 100, 5), RollHall.NONE);
        DUE.is("bad ahead of full", hall.meeting(0, -1, 100, 5), RollHall.BAD);
        DUE.is("full", hall.meeting(0, -1, 7, 5), RollHall.FULL);
    }

    private static void meetingsFillUp() {
        RollHall hall = new RollHall();
        for (int i = 0; i < 24; i++) {
            DUE.is("meeting " + i, hall.meeting(i % 8, i - 1, 7, 5), i);
        }
        DUE.is("the 25th", hall.meeting(0, -1, 7, 5), RollHall.FULL);
        DUE.is("a chain of 24", hall.good(23), 1);
        DUE.is("count", hall.count(0), 24);
        RollHall spoilt = new RollHall();
        for (int i = 0; i < 24; i++) {
            spoilt.meeting(0, i - 1, i == 0 ? 6 : 7, 5);
        }
        DUE.is("a chain whose first is not good", spoilt.good(23), 0);
    }

    private static void goodNeedsNoticeAndRoll() {
        RollHall hall = new RollHall();
        hall.meeting(0, -1, 7, 5);
        hall.meeting(0, -1, 6, 5);
        hall.meeting(0, -1, 7, 4);
        DUE.is("just enough", hall.good(0), 1);
        DUE.is("a day short", hall.good(1), 0);
        DUE.is("one short", hall.good(2), 0);
        DUE.is("not there", hall.good(3), RollHall.NONE);
        DUE.is("below", hall.good(-1), RollHall.NONE);
    }

    private static void goodNeedsTheChain() {
        RollHall hall = new RollHall();
        hall.meeting(0, -1, 6, 5);
        hall.meeting(0, 0, 9, 9);
        hall.meeting(0, 1, 9, 9);
        hall.meeting(0, -1, 9, 9);
        DUE.is("above is not good", hall.good(1), 0);
        DUE.is("two above", hall.good(2), 0);
        DUE.is("its own", hall.good(3), 1);
    }

    private static void lawChangesWhatIsGood() {
        RollHall hall = new RollHall();
        hall.meeting(0, -1, 6, 4);
        DUE.is("days were", hall.law(0, 6), 7);
        DUE.is("quorum still", hall.good(0), 0);
        DUE.is("quorum was", hall.law(1, 4), 5);
        DUE.is("good now", hall.good(0), 1);
        DUE.is("days were 6", hall.law(0, 99), 6);
        DUE.is("no more", hall.good(0), 0);
        DUE.is("days were 99", hall.law(0, 0), 99);
        DUE.is("quorum was 4", hall.law(1, 999), 4);
        DUE.is("quorum was 999", hall.law(1, 0), 999);
    }

    private static void lawRefuses() {
        RollHall hall = new RollHall();
        DUE.is("what -1", hall.law(-1, 0), RollHall.NONE);
        DUE.is("what 2, v bad", hall.law(2, -1), RollHall.NONE);
        DUE.is("days -1", hall.law(0, -1), RollHall.BAD);
        DUE.is("days 100", hall.law(0, 100), RollHall.BAD);
        DUE.is("quorum -1", hall.law(1, -1), RollHall.BAD);
        DUE.is("quorum 1000", hall.law(1, 1000), RollHall.BAD);
        DUE.is("days as they were", hall.law(0, 7), 7);
        DUE.is("quorum as it was", hall.law(1, 5), 5);
    }
}
