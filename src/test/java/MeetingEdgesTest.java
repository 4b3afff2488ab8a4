/** The edges of MEETINGS: part 1 of the document's terms, and promises 2 to 4. */
public final class MeetingEdgesTest {
    private static final int NONE = RollHall.NONE, BAD = RollHall.BAD, FULL = RollHall.FULL;
    private static final int LEAST = Integer.MIN_VALUE, GREATEST = Integer.MAX_VALUE;

    public static void main(String[] args) throws ReflectiveOperationException {
        Edges.run(MeetingEdgesTest.class);
    }

    /** 24 MEETINGS, each above the next. */
    private static void fill(RollHall hall) {
        for (int m = 0; m < 24; m++) {
            hall.meeting(m % 8, m - 1, 7, 5);
        }
    }

    private static void two(RollHall hall) {
        hall.meeting(0, NONE, 7, 5);
        hall.meeting(7, 0, 6, 5);
    }

    private static int goodOf(int notice, int roll) {
        RollHall hall = new RollHall();
        hall.meeting(0, NONE, notice, roll);
        return hall.good(0);
    }

    // "MEETINGS are numbered from 0 on"
    private static void meetingsAreNumberedFromZeroOn() {
        RollHall hall = new RollHall();
        Edges.due("the first", hall.meeting(5, NONE, 50, 500), 0);
        Edges.due("the second", hall.meeting(5, NONE, 50, 500), 1);
        Edges.due("the third", hall.meeting(5, NONE, 50, 500), 2);
    }

    // "24 at most"
    private static void twentyFourMeetingsAtMost() {
        RollHall hall = new RollHall();
        for (int m = 0; m < 24; m++) {
            Edges.due("meeting " + m, hall.meeting(0, NONE, 7, 5), m);
        }
        Edges.due("how many", hall.count(0), 24);
        Edges.refused("the 25th", MeetingEdgesTest::fill, h -> h.meeting(0, NONE, 7, 5), FULL);
        Edges.refused("the 25th, below the 24th", MeetingEdgesTest::fill, h -> h.meeting(7, 23, 0, 0), FULL);
    }

    // "each of a STATE (0 .. 7)"
    private static void statesAreZeroToSeven() {
        for (int state = 0; state < 8; state++) {
            Edges.due("state " + state, new RollHall().meeting(state, NONE, 7, 5), 0);
        }
        for (int state : new int[] {-1, 8, LEAST, GREATEST}) {
            Edges.refused("state " + state, MeetingEdgesTest::two, h -> h.meeting(state, NONE, 7, 5), NONE);
        }
    }

    // "with the MEETING above (NONE, or one with a lesser number)"
    private static void theOneAboveIsNoneOrLesser() {
        RollHall hall = new RollHall();
        Edges.due("none, when there is none", hall.meeting(0, NONE, 7, 5), 0);
        Edges.due("the first", hall.meeting(0, 0, 7, 5), 1);
        Edges.due("the first again", hall.meeting(0, 0, 7, 5), 2);
        Edges.due("the one just ahead", hall.meeting(0, 2, 7, 5), 3);
        Edges.due("none, when there are some", hall.meeting(0, NONE, 7, 5), 4);
        for (int above : new int[] {2, 3, -2, LEAST, GREATEST}) {
            Edges.refused("above " + above, MeetingEdgesTest::two, h -> h.meeting(0, above, 7, 5), NONE);
        }
        Edges.refused("itself, the first", h -> { }, h -> h.meeting(0, 0, 7, 5), NONE);
    }

    // "NOTICE (days, 0 .. 99)"
    private static void noticeIsZeroToNinetyNine() {
        RollHall hall = new RollHall();
        Edges.due("notice 0", hall.meeting(0, NONE, 0, 5), 0);
        Edges.due("notice 99", hall.meeting(0, NONE, 99, 5), 1);
        for (int notice : new int[] {-1, 100, LEAST, GREATEST}) {
            Edges.refused("notice " + notice, MeetingEdgesTest::two, h -> h.meeting(0, NONE, notice, 5), BAD);
        }
    }

    // "ROLL (how many came, 0 .. 999)"
    private static void rollIsZeroTo999() {
        RollHall hall = new RollHall();
        Edges.due("roll 0", hall.meeting(0, NONE, 7, 0), 0);
        Edges.due("roll 999", hall.meeting(0, NONE, 7, 999), 1);
        for (int roll : new int[] {-1, 1000, LEAST, GREATEST}) {
            Edges.refused("roll " + roll, MeetingEdgesTest::two, h -> h.meeting(0, NONE, 7, roll), BAD);
        }
    }

    // meeting: "NONE: state, above; BAD; FULL", of several the first one told
    private static void ofAMeetingNoneIsToldAheadOfBad() {
        Edges.refused("state 8, notice 100", MeetingEdgesTest::two, h -> h.meeting(8, NONE, 100, 5), NONE);
        Edges.refused("state -1, roll -1", MeetingEdgesTest::two, h -> h.meeting(-1, NONE, 7, -1), NONE);
        Edges.refused("above 2, notice -1", MeetingEdgesTest::two, h -> h.meeting(0, 2, -1, 5), NONE);
        Edges.refused("above -2, roll 1000", MeetingEdgesTest::two, h -> h.meeting(0, -2, 7, 1000), NONE);
    }

    private static void ofAMeetingNoneIsToldAheadOfFull() {
        Edges.refused("state 8", MeetingEdgesTest::fill, h -> h.meeting(8, NONE, 7, 5), NONE);
        Edges.refused("above 24", MeetingEdgesTest::fill, h -> h.meeting(0, 24, 7, 5), NONE);
    }

    private static void ofAMeetingBadIsToldAheadOfFull() {
        Edges.refused("notice 100", MeetingEdgesTest::fill, h -> h.meeting(0, NONE, 100, 5), BAD);
        Edges.refused("roll 1000", MeetingEdgesTest::fill, h -> h.meeting(0, NONE, 7, 1000), BAD);
    }

    private static void aRefusedMeetingTakesNoNumber() {
        RollHall hall = new RollHall();
        hall.meeting(8, NONE, 7, 5);
        hall.meeting(0, NONE, 100, 5);
        Edges.due("the first one that is there", hall.meeting(0, NONE, 7, 5), 0);
        hall.meeting(0, 1, 7, 5);
        Edges.due("the next", hall.meeting(0, 0, 7, 5), 1);
    }

    // "One is GOOD, if its NOTICE is DAYS at least (7 at first)"
    private static void noticeIsDaysAtLeast() {
        Edges.due("6 days", goodOf(6, 5), 0);
        Edges.due("7 days", goodOf(7, 5), 1);
        Edges.due("8 days", goodOf(8, 5), 1);
        Edges.due("0 days", goodOf(0, 999), 0);
        Edges.due("99 days", goodOf(99, 5), 1);
    }

    // "its ROLL is QUORUM at least (5 at first)"
    private static void rollIsQuorumAtLeast() {
        Edges.due("4 came", goodOf(7, 4), 0);
        Edges.due("5 came", goodOf(7, 5), 1);
        Edges.due("6 came", goodOf(7, 6), 1);
        Edges.due("0 came", goodOf(99, 0), 0);
        Edges.due("999 came", goodOf(7, 999), 1);
    }

    // "and the one above, if there is one, is GOOD, too"
    private static void theOneAboveIsGoodToo() {
        RollHall hall = new RollHall();
        hall.meeting(0, NONE, 6, 5);
        hall.meeting(0, NONE, 7, 4);
        hall.meeting(0, NONE, 7, 5);
        hall.meeting(0, 0, 99, 999);
        hall.meeting(0, 1, 99, 999);
        hall.meeting(0, 2, 99, 999);
        hall.meeting(0, 2, 6, 999);
        Edges.due("above it too little notice", hall.good(3), 0);
        Edges.due("above it too few", hall.good(4), 0);
        Edges.due("above it a good one", hall.good(5), 1);
        Edges.due("above it a good one, itself not", hall.good(6), 0);
        Edges.due("the one above is as it is", hall.good(2), 1);
    }

    private static void withoutOneAboveItStandsAlone() {
        RollHall hall = new RollHall();
        hall.meeting(0, NONE, 6, 5);
        hall.meeting(0, NONE, 7, 5);
        Edges.due("none above", hall.good(1), 1);
    }

    private static void theLongestChainIsAsGoodAsItsWorst() {
        for (int worst = -1; worst < 24; worst++) {
            RollHall hall = new RollHall();
            for (int m = 0; m < 24; m++) {
                hall.meeting(0, m - 1, m == worst ? 6 : 7, 5);
            }
            Edges.due("not good: " + worst, hall.good(23), worst < 0 ? 1 : 0);
            if (worst > 0) {
                Edges.due("above " + worst, hall.good(worst - 1), 1);
            }
        }
    }

    // law: "DAYS (what 0, 0 .. 99)"
    private static void daysAreZeroToNinetyNine() {
        RollHall hall = new RollHall();
        Edges.due("seven at first", hall.law(0, 0), 7);
        Edges.due("0 before", hall.law(0, 99), 0);
        Edges.due("99 before", hall.law(0, 50), 99);
        for (int days : new int[] {-1, 100, 999, LEAST, GREATEST}) {
            Edges.refused("days " + days, MeetingEdgesTest::two, h -> h.law(0, days), BAD);
        }
    }

    // law: "QUORUM (1, 0 .. 999)"
    private static void quorumIsZeroTo999() {
        RollHall hall = new RollHall();
        Edges.due("five at first", hall.law(1, 0), 5);
        Edges.due("0 before", hall.law(1, 999), 0);
        Edges.due("999 before", hall.law(1, 100), 999);
        Edges.due("100 is no bound here", hall.law(1, 5), 100);
        for (int quorum : new int[] {-1, 1000, LEAST, GREATEST}) {
            Edges.refused("quorum " + quorum, MeetingEdgesTest::two, h -> h.law(1, quorum), BAD);
        }
    }

    // law: "NONE; BAD"
    private static void thereAreTwoLaws() {
        for (int what : new int[] {-1, 2, LEAST, GREATEST}) {
            Edges.refused("what " + what, MeetingEdgesTest::two, h -> h.law(what, 5), NONE);
            Edges.refused("none ahead of bad, what " + what, MeetingEdgesTest::two, h -> h.law(what, -1), NONE);
            Edges.refused("none ahead of bad above, what " + what, MeetingEdgesTest::two, h -> h.law(what, 1000), NONE);
        }
    }

    private static void oneLawLeavesTheOther() {
        RollHall hall = new RollHall();
        hall.law(0, 9);
        Edges.due("quorum", hall.law(1, 8), 5);
        Edges.due("days", hall.law(0, 9), 9);
    }

    private static void lawsAtTheirEnds() {
        RollHall hall = new RollHall();
        hall.meeting(0, NONE, 0, 0);
        hall.meeting(0, NONE, 99, 999);
        hall.meeting(0, NONE, 98, 999);
        hall.meeting(0, NONE, 99, 998);
        hall.law(0, 0);
        hall.law(1, 0);
        Edges.due("nothing is enough", hall.good(0), 1);
        hall.law(0, 99);
        hall.law(1, 999);
        Edges.due("nothing is not", hall.good(0), 0);
        Edges.due("just all", hall.good(1), 1);
        Edges.due("a day less", hall.good(2), 0);
        Edges.due("one less", hall.good(3), 0);
    }

    private static void lawsAreForMeetingsThatWere() {
        RollHall hall = new RollHall();
        hall.meeting(0, NONE, 8, 5);
        hall.meeting(0, 0, 9, 5);
        hall.law(0, 9);
        Edges.due("the one above no more", hall.good(0), 0);
        Edges.due("by the chain", hall.good(1), 0);
        hall.law(0, 8);
        Edges.due("good again", hall.good(1), 1);
        hall.law(1, 6);
        Edges.due("too few now", hall.good(1), 0);
    }

    // good: "NONE"
    private static void goodIsOfMeetingsThatAreThere() {
        for (int m : new int[] {-1, 2, 24, LEAST, GREATEST}) {
            Edges.refused("good " + m, MeetingEdgesTest::two, h -> h.good(m), NONE);
        }
        Edges.refused("of none at all", h -> { }, h -> h.good(0), NONE);
        Edges.refused("behind the last of all", MeetingEdgesTest::fill, h -> h.good(24), NONE);
        RollHall hall = new RollHall();
        fill(hall);
        Edges.due("the last of all", hall.good(23), 1);
    }

    private static void goodLeavesAllAsItWas() {
        Edges.noTrace("good", MeetingEdgesTest::two, h -> {
            h.good(0);
            h.good(1);
        });
    }
}
