/** Promises 17 to 23: bind, release, ballot, had, foresee, needs, turned. */
public final class BallotsTest {
    private static final Due DUE = new Due();

    public static void main(String[] args) {
        bindAnswersAndRefuses();
        releaseAnswersAndRefuses();
        hadRefuses();
        likesDecide();
        boundOnesAreBound();
        boundOnesOfAReleasedName();
        unitsVoteTogether();
        unitsArePerState();
        toldStatesVoteAsOne();
        alternatesVoteOnTheirOwn();
        theLeastOfSeveralWins();
        thoseWhoPassCount();
        theRuleOfNameCounts();
        nothingNeededStillAsksForOneHalf();
        foreseenReleases();
        theGreatestOfSeveralIsReleased();
        foreseenLeavesAllAsItWas();
        foreseenCountsBallots();
        foreseenBehindTheSession();
        turnedIsTheLeast();
        turnedLeavesAllAsItWas();
        turnedFindsNone();
        DUE.end();
    }

    private static void hadAre(RollHall hall, String when, int... want) {
        for (int name = 0; name < 8; name++) {
            DUE.is(when + ", had " + name, hall.had(name), name < want.length ? want[name] : 0);
        }
    }

    private static void bindAnswersAndRefuses() {
        RollHall hall = new RollHall();
        DUE.is("state -1", hall.bind(-1, 0), -5);
        DUE.is("state 8", hall.bind(8, 0), -5);
        DUE.is("name 8", hall.bind(0, 8), -5);
        DUE.is("name -2", hall.bind(0, -2), -5);
        DUE.is("none before", hall.bind(7, 7), RollHall.NONE);
        DUE.is("7 before", hall.bind(7, 0), 7);
        DUE.is("0 before", hall.bind(7, -1), 0);
        DUE.is("none again", hall.bind(7, -1), RollHall.NONE);
    }

    private static void releaseAnswersAndRefuses() {
        RollHall hall = new RollHall();
        DUE.is("name -1", hall.release(-1, 2), RollHall.NONE);
        DUE.is("name 8", hall.release(8, 0), RollHall.NONE);
        DUE.is("is 2", hall.release(0, 2), RollHall.BAD);
        DUE.is("is -1", hall.release(0, -1), RollHall.BAD);
        DUE.is("was not", hall.release(7, 1), 0);
        DUE.is("was", hall.release(7, 1), 1);
        DUE.is("was, is not", hall.release(7, 0), 1);
        DUE.is("was not any more", hall.release(7, 0), 0);
    }

    private static void hadRefuses() {
        RollHall hall = new RollHall();
        DUE.is("name -1", hall.had(-1), RollHall.NONE);
        DUE.is("name 8", hall.had(8), RollHall.NONE);
        hadAre(hall, "ahead of all ballots");
    }

    private static void likesDecide() {
        RollHall hall = Due.hall();
        Due.whole(hall, 0, 2, 1);
        Due.whole(hall, 0, 2);
        Due.seat(hall, 1, 3, 0, 1, 2);
        DUE.is("won", hall.ballot(), 2);
        hadAre(hall, "first", 0, 1, 4);
        DUE.is("one ballot", hall.count(4), 1);
        hall.release(2, 1);
        DUE.is("won without 2", hall.ballot(), 1);
        hadAre(hall, "without 2", 0, 3, 0);
        hall.unlike(0);
        DUE.is("not won", hall.ballot(), RollHall.NONE);
        hadAre(hall, "without likes", 0, 1);
        DUE.is("nominee is by motions alone", hall.count(6), RollHall.NONE);
        DUE.is("three ballots", hall.count(4), 3);
    }

    private static void boundOnesAreBound() {
        RollHall hall = Due.hall();
        Due.seat(hall, 3, 0, 205, 3);
        Due.seat(hall, 3, 0, 4, 6);
        hall.ballot();
        hadAre(hall, "first", 0, 0, 0, 0, 0, 2, 2);
        hall.ballot();
        hadAre(hall, "second", 0, 0, 0, 0, 0, 2, 2);
        hall.ballot();
        hadAre(hall, "third", 0, 0, 0, 2, 0, 0, 2);
    }

    private static void boundOnesOfAReleasedName() {
        RollHall hall = Due.hall();
        Due.seat(hall, 3, 0, 2005, 5, 3);
        hall.release(5, 1);
        DUE.is("by its likes", hall.ballot(), 3);
        hall.release(5, 0);
        DUE.is("bound again", hall.ballot(), 5);
    }

    private static void unitsVoteTogether() {
        RollHall hall = Due.hall();
        Due.seat(hall, 2, 1, 0, 4);
        Due.seat(hall, 2, 1, 0, 3);
        Due.seat(hall, 2, 1, 0, 4);
        Due.seat(hall, 2, 1, 0);
        Due.whole(hall, 1, 3);
        hall.ballot();
        hadAre(hall, "most", 0, 0, 0, 2, 8);
        hall.out(2, 1);
        hall.ballot();
        hadAre(hall, "the least of several", 0, 0, 0, 8);
        hall.out(0, 1);
        hall.out(1, 1);
        hall.ballot();
        hadAre(hall, "all pass", 0, 0, 0, 2);
    }

    private static void unitsArePerState() {
        RollHall hall = Due.hall();
        Due.seat(hall, 2, 0, 0, 1);
        Due.seat(hall, 2, 0, 0, 1);
        Due.seat(hall, 2, 7, 0, 2);
        Due.seat(hall, 2, 7, 0);
        hall.ballot();
        hadAre(hall, "each its own", 0, 4, 4);
    }

    private static void toldStatesVoteAsOne() {
        RollHall hall = Due.hall();
        hall.meeting(0, RollHall.NONE, 7, 5);
        Due.whole(hall, 2, 1);
        Due.seat(hall, 1, 2, 0);
        Due.seat(hall, 2, 2, 0, 1);
        Due.seat(hall, 3, 2, 2001);
        hall.seat(4, 2, 0, 1);
        Due.whole(hall, 3, 1);
        hall.release(6, 1);
        hall.bind(2, 6);
        DUE.is("a released name", hall.ballot(), 6);
        hadAre(hall, "as one", 0, 2, 0, 0, 0, 0, 7);
        hall.bind(2, -1);
        DUE.is("no more", hall.ballot(), 1);
        hadAre(hall, "on their own", 0, 8);
    }

    private static void alternatesVoteOnTheirOwn() {
        RollHall hall = Due.hall();
        Due.seat(hall, 2, 0, 0, 1);
        Due.seat(hall, 3, 0, 2001);
        Due.seat(hall, 2, 0, 0, 2);
        Due.seat(hall, 5, 3, 0, 5);
        Due.seat(hall, 5, 0, 1, 6);
        hall.out(0, 1);
        hall.out(1, 1);
        hall.ballot();
        hadAre(hall, "no unit, no bound", 0, 0, 2, 0, 0, 2, 2);
        hall.bind(0, 7);
        hall.ballot();
        hadAre(hall, "of its own state", 0, 0, 0, 0, 0, 2, 0, 4);
    }

    private static void theLeastOfSeveralWins() {
        RollHall hall = Due.hall();
        Due.rule(hall, "name rank 0 need 1 of 3");
        Due.whole(hall, 0, 6);
        Due.whole(hall, 0, 5);
        DUE.is("5 and 6 alike", hall.ballot(), 5);
    }

    private static void thoseWhoPassCount() {
        RollHall hall = Due.hall();
        Due.whole(hall, 0, 0);
        Due.whole(hall, 0);
        DUE.is("just half", hall.ballot(), RollHall.NONE);
        hall.out(1, 1);
        DUE.is("all", hall.ballot(), 0);
    }

    private static void theRuleOfNameCounts() {
        RollHall hall = Due.hall();
        Due.rule(hall, "name rank 0 need 2 of 3 if ballots<1");
        Due.whole(hall, 0, 1);
        Due.whole(hall, 0, 1);
        Due.seat(hall, 1, 0, 0, 2);
        Due.seat(hall, 1, 0, 0, 1);
        Due.seat(hall, 1, 0, 0, 2);
        Due.whole(hall, 0, 3);
        DUE.is("5 of 9", hall.ballot(), RollHall.NONE);
        DUE.is("the rule holds no more", hall.ballot(), 1);
        hadAre(hall, "both", 0, 5, 2, 2);
    }

    private static void nothingNeededStillAsksForOneHalf() {
        RollHall hall = Due.hall();
        Due.rule(hall, "name rank 0 need 0 of 1");
        DUE.is("no seat", hall.ballot(), RollHall.NONE);
        Due.whole(hall, 0);
        DUE.is("all pass", hall.ballot(), RollHall.NONE);
        Due.seat(hall, 1, 0, 0, 7);
        DUE.is("one half", hall.ballot(), 7);
    }

    private static void foreseenReleases() {
        RollHall hall = Due.hall();
        Due.whole(hall, 0, 0);
        Due.whole(hall, 0, 0);
        Due.whole(hall, 0, 1);
        Due.whole(hall, 0, 1);
        Due.whole(hall, 0, 2, 1);
        // 7 to 3 go first, then 2 with the fewest halves.
        DUE.is("1 by those of 2", hall.foresee(), 1);
        DUE.is("seven ballots", hall.needs(), 7);
        hall.release(7, 1);
        hall.release(3, 1);
        DUE.is("five ballots", hall.needs(), 5);
        Due.seat(hall, 1, 0, 0, 4, 0);
        Due.seat(hall, 1, 0, 0, 5, 0);
        // 6, 5, 4 and 2 go; then 0 and 1 have 6 of 12 halves each, and 1 goes ahead of 0.
        DUE.is("half is not enough", hall.foresee(), RollHall.NONE);
        DUE.is("six ballots", hall.needs(), 6);
        hall.unlike(6);
        hall.like(6, 5);
        hall.like(6, 1);
        DUE.is("5 goes to 1", hall.foresee(), 1);
        DUE.is("five ballots, 2 gone", hall.needs(), 5);
        hall.unlike(4);
        hall.like(4, 2);
        hall.like(4, 0);
        DUE.is("2 goes to 0", hall.foresee(), 0);
    }

    private static void theGreatestOfSeveralIsReleased() {
        RollHall hall = Due.hall();
        Due.whole(hall, 0, 0);
        Due.whole(hall, 0, 1, 0);
        Due.whole(hall, 0, 2, 1);
        // 2, 1 and 0 have as much each: 2 goes, so 1 has two of three.
        DUE.is("needs, asked first", hall.needs(), 7);
        DUE.is("1", hall.foresee(), 1);
        hall.unlike(2);
        hall.like(2, 2);
        DUE.is("2 goes, then 1", hall.foresee(), 0);
        DUE.is("eight", hall.needs(), 8);
    }

    private static void foreseenLeavesAllAsItWas() {
        RollHall hall = Due.hall();
        Due.whole(hall, 0, 3);
        Due.whole(hall, 0, 4);
        hall.ballot();
        DUE.is("3 stays longest", hall.foresee(), RollHall.NONE);
        DUE.is("needs", hall.needs(), 8);
        DUE.is("one ballot", hall.count(4), 1);
        hadAre(hall, "as before", 0, 0, 0, 2, 2);
        for (int name = 0; name < 8; name++) {
            DUE.is("not released " + name, hall.release(name, 0), 0);
        }
    }

    private static void foreseenCountsBallots() {
        RollHall hall = Due.hall();
        Due.seat(hall, 3, 0, 306, 1);
        Due.whole(hall, 0, 1);
        DUE.is("freed behind the third", hall.foresee(), 1);
        DUE.is("the fourth", hall.needs(), 4);
        hall.ballot();
        DUE.is("one was", hall.needs(), 3);
        RollHall ruled = Due.hall();
        Due.rule(ruled, "name rank 0 need 1 of 3 if ballots=4");
        Due.whole(ruled, 0, 3);
        Due.whole(ruled, 0, 1);
        Due.whole(ruled, 0, 0);
        DUE.is("the rule of the fifth", ruled.foresee(), 0);
        DUE.is("five", ruled.needs(), 5);
        ruled.ballot();
        DUE.is("four", ruled.needs(), 4);
    }

    private static void foreseenBehindTheSession() {
        RollHall hall = Due.hall();
        Due.whole(hall, 0, 3);
        hall.move(4, 0);
        hall.vote(1);
        DUE.is("over", hall.ballot(), RollHall.STATE);
        DUE.is("foreseen all the same", hall.foresee(), 3);
        DUE.is("needs", hall.needs(), 1);
        DUE.is("turned", hall.turned(), 0);
    }

    private static void turnedIsTheLeast() {
        RollHall hall = Due.hall();
        Due.seat(hall, 1, 0, 0, 0);
        Due.whole(hall, 4, 0);
        Due.whole(hall, 6, 0);
        // 3 and 4 halves of 5 are for 0 whatever STATE 0 does; STATE 4 alone leaves it 3 of 5.
        DUE.is("no state alone", hall.turned(), RollHall.NONE);
        hall.seat(1, 4, 0, 0);
        hall.seat(1, 4, 0, 0);
        DUE.is("state 4 to 1", hall.turned(), 41);
        hall.unlike(1);
        hall.like(1, 1);
        DUE.is("none without, one with", hall.turned(), 40);
        RollHall half = Due.hall();
        Due.seat(half, 1, 5, 0, 2);
        DUE.is("a state of one half", half.turned(), 50);
        half.out(0, 1);
        DUE.is("a state without votes", half.turned(), RollHall.NONE);
    }

    private static void turnedLeavesAllAsItWas() {
        RollHall hall = Due.hall();
        Due.whole(hall, 0, 0);
        hall.bind(0, 5);
        DUE.is("from 5 to 0", hall.turned(), 0);
        DUE.is("told as before", hall.bind(0, 0), 5);
        DUE.is("from 0 to 1", hall.turned(), 1);
        DUE.is("told 0", hall.bind(0, -1), 0);
        DUE.is("from its likes to 1", hall.turned(), 1);
        DUE.is("not told", hall.bind(0, -1), RollHall.NONE);
        DUE.is("no ballot", hall.count(4), 0);
    }

    private static void turnedFindsNone() {
        RollHall hall = new RollHall();
        DUE.is("no seat", hall.turned(), RollHall.NONE);
        RollHall all = Due.hall();
        Due.whole(all, 0, 0);
        for (int name = 0; name < 8; name++) {
            all.release(name, 1);
        }
        DUE.is("foresee", all.foresee(), RollHall.NONE);
        DUE.is("needs", all.needs(), 0);
        DUE.is("no ballot to turn", all.turned(), RollHall.NONE);
    }
}
