/** The edges of BALLOTS: part 4 of the document's terms, and promises 17 to 23. */
public final class BallotEdgesTest {
    private static final int NONE = RollHall.NONE, BAD = RollHall.BAD, STATE = RollHall.STATE;
    private static final int LEAST = Integer.MIN_VALUE, GREATEST = Integer.MAX_VALUE;
    private static final int WHOLE = 0, HALF = 1, UNIT = 2, BOUND = 3, RIVAL = 4, ALTERNATE = 5;

    public static void main(String[] args) throws ReflectiveOperationException {
        Edges.run(BallotEdgesTest.class);
    }

    private static RollHall hall() {
        RollHall hall = new RollHall();
        hall.meeting(0, NONE, 7, 5);
        hall.meeting(0, NONE, 7, 5);
        return hall;
    }

    /** Some SEATS of some STATES, one BALLOT held, a STATE told, a NAME RELEASED. */
    private static void begin(RollHall hall) {
        hall.meeting(0, NONE, 7, 5);
        Due.seat(hall, WHOLE, 0, 0, 1, 2);
        Due.seat(hall, HALF, 3, 0, 2);
        Due.seat(hall, UNIT, 4, 0, 5);
        Due.seat(hall, BOUND, 7, 206, 1);
        hall.ballot();
        hall.bind(3, 6);
        hall.release(5, 1);
    }

    private static void end(RollHall hall) {
        begin(hall);
        hall.move(4, 0);
        hall.vote(15);
    }

    private static void releaseAll(RollHall hall) {
        for (int name = 0; name < 8; name++) {
            hall.release(name, 1);
        }
    }

    /** Holds a BALLOT and looks at what each NAME had in it. */
    private static void ballotGives(RollHall hall, String when, int... want) {
        hall.ballot();
        hadAre(hall, when, want);
    }

    private static void hadAre(RollHall hall, String when, int... want) {
        for (int name = 0; name < 8; name++) {
            Edges.due(when + ", name " + name, hall.had(name), name < want.length ? want[name] : 0);
        }
    }

    // bind: "-5: there is none such"
    private static void statesToldAreZeroToSeven() {
        for (int state : new int[] {-1, 8, LEAST, GREATEST}) {
            Edges.refused("state " + state, BallotEdgesTest::begin, h -> h.bind(state, 0), -5);
            Edges.refused("state " + state + ", no more", BallotEdgesTest::begin, h -> h.bind(state, -1), -5);
        }
        for (int state = 0; state < 8; state++) {
            Edges.due("state " + state, new RollHall().bind(state, 0), NONE);
        }
    }

    private static void namesToldAreZeroToSeven() {
        for (int name : new int[] {-2, 8, LEAST, GREATEST}) {
            Edges.refused("name " + name, BallotEdgesTest::begin, h -> h.bind(3, name), -5);
        }
        RollHall hall = hall();
        for (int name = 0; name < 8; name++) {
            Edges.due("told " + name, hall.bind(2, name), name - 1);
        }
    }

    // bind: "(-1: no more): for which it did (NONE)"
    private static void bindTellsForWhichItDid() {
        RollHall hall = hall();
        Edges.due("not told at first", hall.bind(7, -1), NONE);
        Edges.due("still not", hall.bind(7, 7), NONE);
        Edges.due("7", hall.bind(7, 7), 7);
        Edges.due("7 again", hall.bind(7, 0), 7);
        Edges.due("0", hall.bind(7, -1), 0);
        Edges.due("no more", hall.bind(7, -1), NONE);
        Edges.due("each state its own", hall.bind(6, -1), NONE);
    }

    // release: "NONE; BAD"
    private static void namesReleasedAreZeroToSeven() {
        for (int name : new int[] {-1, 8, LEAST, GREATEST}) {
            Edges.refused("name " + name, BallotEdgesTest::begin, h -> h.release(name, 1), NONE);
            Edges.refused("none ahead of bad, name " + name, BallotEdgesTest::begin, h -> h.release(name, 2), NONE);
        }
        for (int is : new int[] {-1, 2, LEAST, GREATEST}) {
            Edges.refused("is " + is, BallotEdgesTest::begin, h -> h.release(0, is), BAD);
            Edges.refused("is " + is + ", of one that is", BallotEdgesTest::begin, h -> h.release(5, is), BAD);
        }
    }

    private static void releaseTellsWhatItWas() {
        RollHall hall = hall();
        for (int name = 0; name < 8; name++) {
            Edges.due("not, not: " + name, hall.release(name, 0), 0);
            Edges.due("not, is: " + name, hall.release(name, 1), 0);
            Edges.due("is, is: " + name, hall.release(name, 1), 1);
            Edges.due("is, not: " + name, hall.release(name, 0), 1);
        }
    }

    // had: "NONE"
    private static void hadIsOfNamesThatAreThere() {
        for (int name : new int[] {-1, 8, LEAST, GREATEST}) {
            Edges.refused("name " + name, BallotEdgesTest::begin, h -> h.had(name), NONE);
        }
    }

    // had: "in the latest BALLOT"
    private static void hadIsOfTheLatestBallot() {
        RollHall hall = hall();
        Due.whole(hall, 0, 7);
        hadAre(hall, "ahead of the first");
        ballotGives(hall, "first", 0, 0, 0, 0, 0, 0, 0, 2);
        hall.unlike(0);
        hall.like(0, 0);
        hadAre(hall, "till the next", 0, 0, 0, 0, 0, 0, 0, 2);
        ballotGives(hall, "second", 2);
        hall.unlike(0);
        ballotGives(hall, "all pass");
    }

    // "each SEAT that VOTES, with halves"
    private static void onlySeatsThatVoteHaveHalves() {
        RollHall hall = hall();
        Due.seat(hall, WHOLE, 0, 0, 0);
        Due.seat(hall, HALF, 0, 0, 1);
        Due.seat(hall, RIVAL, 0, 1, 2);
        Due.seat(hall, ALTERNATE, 0, 0, 3);
        ballotGives(hall, "at first", 2, 1, 0, 0);
        hall.out(0, 1);
        ballotGives(hall, "its alternate", 0, 1, 0, 2);
        hall.out(1, 1);
        hall.move(1, 2);
        hall.vote(8);
        ballotGives(hall, "a rival that is seated", 0, 0, 2, 2);
    }

    // "BOUND ones for as many BALLOTS as told (the first is number 1)"
    private static void boundOnesAreBoundForAsManyAsTold() {
        for (int ballots : new int[] {0, 1, 2, 19, 20}) {
            RollHall hall = hall();
            Due.seat(hall, BOUND, 0, 100 * ballots + 7, 3);
            for (int i = 1; i <= ballots + 2; i++) {
                hall.ballot();
                Edges.due("bound for " + ballots + ", ballot " + i, hall.had(7), i <= ballots ? 2 : 0);
                Edges.due("likes of one for " + ballots + ", ballot " + i, hall.had(3), i <= ballots ? 0 : 2);
            }
        }
    }

    /** The BALLOTS of the whole hall are counted, also those ahead of the SEAT. */
    private static void ballotsAheadOfASeatCount() {
        RollHall hall = hall();
        hall.ballot();
        hall.ballot();
        Due.seat(hall, BOUND, 0, 307, 3);
        Due.seat(hall, BOUND, 0, 206, 3);
        ballotGives(hall, "the third", 0, 0, 0, 2, 0, 0, 0, 2);
        ballotGives(hall, "the fourth", 0, 0, 0, 4);
    }

    // "unless that is RELEASED"
    private static void boundOnesAreFreeOfAReleasedName() {
        RollHall hall = hall();
        Due.seat(hall, BOUND, 0, 507, 7, 3);
        ballotGives(hall, "bound", 0, 0, 0, 0, 0, 0, 0, 2);
        hall.release(7, 1);
        ballotGives(hall, "released", 0, 0, 0, 2);
        hall.release(7, 0);
        ballotGives(hall, "bound again", 0, 0, 0, 0, 0, 0, 0, 2);
    }

    // "these behind that ... (none: they pass)"
    private static void boundOnesWithoutLikesPassInTheEnd() {
        RollHall hall = hall();
        Due.seat(hall, BOUND, 0, 100);
        ballotGives(hall, "bound", 2);
        ballotGives(hall, "passes");
    }

    // "for the first of their LIKES that is not RELEASED"
    private static void theFirstLikeThatIsNotReleasedCounts() {
        RollHall hall = hall();
        Due.whole(hall, 0, 7, 0, 4);
        ballotGives(hall, "the first", 0, 0, 0, 0, 0, 0, 0, 2);
        hall.release(0, 1);
        ballotGives(hall, "the second is released", 0, 0, 0, 0, 0, 0, 0, 2);
        hall.release(7, 1);
        ballotGives(hall, "the third", 0, 0, 0, 0, 2);
        hall.release(0, 0);
        ballotGives(hall, "the second", 2);
    }

    private static void allEightLikesCount() {
        RollHall hall = hall();
        Due.whole(hall, 0, 3, 1, 4, 0, 5, 2, 6, 7);
        for (int name : new int[] {3, 1, 4, 0, 5, 2, 6, 7}) {
            Edges.due("won", hall.ballot(), name);
            hall.release(name, 1);
        }
        Edges.due("all are released", hall.ballot(), NONE);
    }

    // "(none: they pass)"
    private static void seatsWithoutLikesPass() {
        RollHall hall = hall();
        Due.whole(hall, 0);
        Due.whole(hall, 0, 2);
        hall.release(2, 1);
        Edges.due("nobody", hall.ballot(), NONE);
        hadAre(hall, "nothing");
        Edges.due("they vote all the same", hall.count(7), 4);
    }

    // "UNIT ones of a STATE: all for the NAME that most halves of them are for"
    private static void unitsAreForTheNameOfMost() {
        RollHall hall = hall();
        Due.seat(hall, UNIT, 5, 0, 6);
        Due.seat(hall, UNIT, 5, 0, 1);
        Due.seat(hall, UNIT, 5, 0, 6);
        ballotGives(hall, "two of three", 0, 0, 0, 0, 0, 0, 6);
    }

    // "the least of several"
    private static void unitsAreForTheLeastOfSeveral() {
        RollHall hall = hall();
        Due.seat(hall, UNIT, 5, 0, 7);
        Due.seat(hall, UNIT, 5, 0, 3);
        Due.seat(hall, UNIT, 5, 0, 4);
        ballotGives(hall, "each one", 0, 0, 0, 6);
        hall.unlike(1);
        hall.like(1, 0);
        ballotGives(hall, "name 0", 6);
        hall.unlike(1);
        ballotGives(hall, "4 and 7", 0, 0, 0, 0, 6);
    }

    // "(those who pass, too"
    private static void unitsThatPassGoWithTheOthers() {
        RollHall hall = hall();
        Due.seat(hall, UNIT, 5, 0);
        Due.seat(hall, UNIT, 5, 0);
        Due.seat(hall, UNIT, 5, 0, 7);
        ballotGives(hall, "one of three", 0, 0, 0, 0, 0, 0, 0, 6);
        hall.out(0, 1);
        ballotGives(hall, "one that is out does not", 0, 0, 0, 0, 0, 0, 0, 4);
    }

    // "if all pass, they pass)"
    private static void unitsPassIfAllPass() {
        RollHall hall = hall();
        Due.seat(hall, UNIT, 5, 0);
        Due.seat(hall, UNIT, 5, 0, 2);
        Due.whole(hall, 5, 3);
        hall.release(2, 1);
        ballotGives(hall, "all units pass", 0, 0, 0, 2);
        hall.release(2, 0);
        ballotGives(hall, "one does not", 0, 0, 4, 2);
    }

    // "UNIT ones of a STATE": no others, and no other STATE's
    private static void unitsAreOfOneStateAndKind() {
        RollHall hall = hall();
        Due.seat(hall, UNIT, 0, 0, 1);
        Due.seat(hall, UNIT, 0, 0);
        Due.seat(hall, UNIT, 7, 0, 2);
        Due.seat(hall, UNIT, 7, 0);
        Due.whole(hall, 0, 4);
        Due.seat(hall, HALF, 7, 0, 4);
        Due.seat(hall, BOUND, 7, 104, 2);
        Due.whole(hall, 7);
        ballotGives(hall, "each its own", 0, 4, 4, 0, 5);
    }

    /** An ALTERNATE of a UNIT or a BOUND SEAT is neither: it stands by its own STATE and LIKES. */
    private static void alternatesAreOfTheirOwnKind() {
        RollHall hall = hall();
        Due.seat(hall, UNIT, 1, 0, 0);
        Due.seat(hall, BOUND, 1, 2001);
        Due.seat(hall, UNIT, 1, 0, 2);
        Due.seat(hall, ALTERNATE, 1, 0, 5);
        Due.seat(hall, ALTERNATE, 2, 1, 6);
        hall.out(0, 1);
        hall.out(1, 1);
        ballotGives(hall, "by their likes", 0, 0, 2, 0, 0, 2, 2);
        hall.bind(1, 7);
        ballotGives(hall, "by their states", 0, 0, 0, 0, 0, 0, 2, 4);
    }

    // "A STATE may be told to VOTE as one for a NAME (all its SEATS"
    private static void allSeatsOfAToldStateGoAsOne() {
        RollHall hall = hall();
        Due.seat(hall, WHOLE, 7, 0, 1);
        Due.seat(hall, HALF, 7, 0);
        Due.seat(hall, UNIT, 7, 0, 2);
        Due.seat(hall, BOUND, 7, 2003);
        Due.seat(hall, RIVAL, 7, 1, 4);
        Due.seat(hall, ALTERNATE, 7, 0, 5);
        Due.seat(hall, WHOLE, 6, 0, 1);
        hall.bind(7, 0);
        ballotGives(hall, "7 of state 7, without those that do not vote", 7, 2);
        hall.move(1, 4);
        hall.vote(127);
        hall.out(0, 1);
        ballotGives(hall, "the rival and the alternate, too", 9, 2);
    }

    // "RELEASED or not"
    private static void aToldNameMayBeReleased() {
        RollHall hall = hall();
        Due.whole(hall, 2, 1);
        hall.release(4, 1);
        hall.bind(2, 4);
        Edges.due("won by a released name", hall.ballot(), 4);
        hadAre(hall, "told", 0, 0, 0, 0, 2);
        hall.release(4, 0);
        Edges.due("and by one that is not", hall.ballot(), 4);
    }

    // "till it is told otherwise)"
    private static void aStateIsToldTillToldOtherwise() {
        RollHall hall = hall();
        Due.whole(hall, 2, 1);
        hall.bind(2, 4);
        for (int i = 0; i < 3; i++) {
            Edges.due("ballot " + i, hall.ballot(), 4);
        }
        hall.bind(2, 5);
        Edges.due("otherwise", hall.ballot(), 5);
        hall.bind(2, -1);
        Edges.due("no more", hall.ballot(), 1);
    }

    // "WON has the NAME with most halves (1 at least)"
    private static void aNameNeedsOneHalfToWin() {
        RollHall hall = hall();
        Due.rule(hall, "name rank 0 need 0 of 1");
        Edges.due("no seat", hall.ballot(), NONE);
        Due.seat(hall, HALF, 0, 0);
        Edges.due("nobody is for one", hall.ballot(), NONE);
        hall.like(0, 7);
        Edges.due("one half", hall.ballot(), 7);
    }

    // "of several the least"
    private static void theLeastOfSeveralWins() {
        RollHall hall = hall();
        Due.rule(hall, "name rank 0 need 1 of 3");
        Due.whole(hall, 0, 7);
        Due.whole(hall, 0, 5);
        Due.whole(hall, 0, 6);
        Edges.due("5, 6 and 7", hall.ballot(), 5);
        hall.unlike(1);
        Edges.due("6 and 7", hall.ballot(), 6);
    }

    private static void mostHalvesWinAheadOfTheLeastName() {
        RollHall hall = hall();
        Due.rule(hall, "name rank 0 need 1 of 5");
        Due.whole(hall, 0, 0);
        Due.whole(hall, 0, 7);
        Due.seat(hall, HALF, 0, 0, 7);
        Edges.due("3 halves ahead of 2", hall.ballot(), 7);
    }

    // "if they, of all that VOTE, MAKE the need of name"
    private static void theWinnerMakesTheNeed() {
        for (int fors = 3; fors <= 5; fors++) {
            RollHall hall = hall();
            for (int s = 0; s < 6; s++) {
                Due.seat(hall, HALF, 0, 0);
                if (s < fors) {
                    hall.like(s, 2);
                }
            }
            Edges.due("more than half, " + fors + " of 6", hall.ballot(), fors > 3 ? 2 : NONE);
            Due.rule(hall, "name rank 0 need 2 of 3");
            Edges.due("two thirds, " + fors + " of 6", hall.ballot(), fors >= 4 ? 2 : NONE);
            Due.rule(hall, "name rank 0 need 1 of 1");
            Edges.due("all, " + fors + " of 6", hall.ballot(), NONE);
            Due.rule(hall, "name rank 0 need 3 of 6");
            Edges.due("three sixths, " + fors + " of 6", hall.ballot(), fors > 3 ? 2 : NONE);
        }
    }

    private static void thoseWhoPassAreOfAll() {
        RollHall hall = hall();
        Due.whole(hall, 0, 4);
        Due.whole(hall, 0);
        Edges.due("half, the others pass", hall.ballot(), NONE);
        hall.out(1, 1);
        Edges.due("all, the other is out", hall.ballot(), 4);
    }

    /** Only the RULE for name counts, and only its need. */
    private static void otherKeysDoNotCount() {
        RollHall hall = hall();
        Due.whole(hall, 0, 4);
        Due.whole(hall, 0, 5);
        Due.rule(hall, "plank rank 0 need 0 of 1");
        Due.rule(hall, "seat rank 0 need 0 of 1");
        Due.rule(hall, "appeal rank 0 need 0 of 1");
        Due.rule(hall, "close rank 0 need 0 of 1");
        Edges.due("half is not enough", hall.ballot(), NONE);
    }

    // "(the RULE as it is ahead of the BALLOT)"
    private static void theRuleIsAsAheadOfTheBallot() {
        RollHall hall = hall();
        Due.whole(hall, 0, 4);
        Due.whole(hall, 0, 5);
        Due.rule(hall, "name rank 0 need 0 of 1 if ballots=1");
        Edges.due("the first: none was", hall.ballot(), NONE);
        Edges.due("the second: one was", hall.ballot(), 4);
        Edges.due("the third: two were", hall.ballot(), NONE);
    }

    private static void theRuleOfSeatsAndDepth() {
        RollHall hall = hall();
        Due.whole(hall, 0, 4);
        Due.whole(hall, 0, 5);
        Due.rule(hall, "name rank 0 need 0 of 1 if seats=2 and depth=1");
        Edges.due("nothing is open", hall.ballot(), NONE);
        hall.move(4, 0);
        Edges.due("one is open", hall.ballot(), 4);
        Edges.due("foreseen, too", hall.needs(), 1);
        Due.whole(hall, 0);
        Edges.due("three seats", hall.ballot(), NONE);
    }

    /** A BALLOT with a MOTION open leaves the pile, and a BALLOT that is WON leaves THE NOMINEE. */
    private static void aBallotIsNoMotion() {
        RollHall hall = hall();
        Due.whole(hall, 0, 4);
        hall.move(4, 0);
        Edges.due("won", hall.ballot(), 4);
        Edges.due("still open", hall.count(3), 1);
        Edges.due("no nominee", hall.count(6), NONE);
        Edges.due("no ruling", hall.count(8), 0);
        Edges.due("one ballot", hall.count(4), 1);
    }

    // ballot: "STATE: THE SESSION is over"
    private static void behindTheEndThereIsNoBallot() {
        Edges.refused("over", BallotEdgesTest::end, RollHall::ballot, STATE);
        RollHall hall = new RollHall();
        end(hall);
        hall.ballot();
        Edges.due("still one ballot", hall.count(4), 1);
    }

    // "as long as some NAME is not RELEASED there is a BALLOT"
    private static void withAllReleasedNothingIsForeseen() {
        RollHall hall = hall();
        Due.whole(hall, 0, 4);
        hall.bind(0, 4);
        releaseAll(hall);
        Edges.due("no name", hall.foresee(), NONE);
        Edges.due("no ballot", hall.needs(), 0);
        Edges.due("no state turns it", hall.turned(), NONE);
        hall.release(7, 0);
        Edges.due("one is not released", hall.needs(), 1);
        Edges.due("it ends with the one told", hall.foresee(), 4);
    }

    private static void oneNameLeftTakesOneBallot() {
        RollHall hall = hall();
        Due.whole(hall, 0, 4);
        Due.whole(hall, 0, 6);
        releaseAll(hall);
        hall.release(4, 0);
        Edges.due("half is not won", hall.foresee(), NONE);
        Edges.due("one ballot", hall.needs(), 1);
        hall.out(1, 1);
        Edges.due("won", hall.foresee(), 4);
        Edges.due("one ballot too", hall.needs(), 1);
    }

    private static void eightBallotsAreForeseenAtMost() {
        RollHall hall = new RollHall();
        Edges.due("no seat: nobody", hall.foresee(), NONE);
        Edges.due("no seat: eight", hall.needs(), 8);
        for (int released = 1; released <= 8; released++) {
            hall.release(released - 1, 1);
            Edges.due("released " + released, hall.needs(), 8 - released);
        }
    }

    private static void aBallotThatIsWonIsTheLast() {
        RollHall hall = hall();
        Due.whole(hall, 0, 4);
        Edges.due("at once", hall.needs(), 1);
        Edges.due("by 4", hall.foresee(), 4);
    }

    // "the NAME that is not RELEASED with the fewest halves"
    private static void theFewestHalvesAreReleased() {
        RollHall hall = hall();
        for (int s = 0; s < 4; s++) {
            Due.seat(hall, HALF, 0, 0, 0);
            Due.seat(hall, HALF, 0, 0, 1);
        }
        Due.seat(hall, HALF, 0, 0, 2, 1);
        // 7 to 3 have none; 2 with one half goes sixth, and its SEAT goes to 1.
        Edges.due("by the second like", hall.foresee(), 1);
        Edges.due("the seventh", hall.needs(), 7);
    }

    /** A RELEASED NAME has none, but it is not the one that goes. */
    private static void theReleasedOnesAreOut() {
        RollHall hall = hall();
        Due.whole(hall, 0, 0);
        Due.whole(hall, 0, 1);
        Due.whole(hall, 0, 2, 0);
        for (int name = 3; name < 8; name++) {
            hall.release(name, 1);
        }
        Edges.due("2 goes first", hall.foresee(), 0);
        Edges.due("two ballots", hall.needs(), 2);
    }

    // "(of several the greatest number)"
    private static void theGreatestNumberOfSeveralIsReleased() {
        RollHall hall = hall();
        Due.whole(hall, 0, 0, 2);
        Due.whole(hall, 0, 1, 0);
        Due.whole(hall, 0, 2, 1);
        for (int name = 3; name < 8; name++) {
            hall.release(name, 1);
        }
        Edges.due("2 goes, to 1", hall.foresee(), 1);
        Edges.due("two ballots", hall.needs(), 2);
        hall.release(7, 0);
        Edges.due("7 goes first", hall.needs(), 3);
        hall.release(5, 0);
        Edges.due("7 and 5 go first", hall.needs(), 4);
    }

    // "if it is not WON the NAME ... is RELEASED": of a BOUND SEAT's NAME, too
    private static void aForeseenReleaseFreesBoundOnes() {
        RollHall hall = hall();
        Due.seat(hall, BOUND, 0, 2007, 0);
        Due.whole(hall, 0, 0);
        Due.seat(hall, HALF, 0, 0, 1);
        Due.seat(hall, HALF, 0, 0, 1);
        for (int name = 2; name < 7; name++) {
            hall.release(name, 1);
        }
        Edges.due("7 goes, its seat to 0", hall.foresee(), 0);
        Edges.due("two ballots", hall.needs(), 2);
    }

    /** A STATE that is told stays with its NAME when that is RELEASED on the way. */
    private static void aToldStateStaysWithItsName() {
        RollHall hall = hall();
        Due.rule(hall, "name rank 0 need 1 of 1");
        Due.rule(hall, "name rank 0 need 1 of 3 if ballots=7");
        Due.whole(hall, 0);
        hall.bind(0, 0);
        Due.seat(hall, BOUND, 1, 701);
        Due.seat(hall, HALF, 1, 0, 1);
        // 7 to 2 go, then 0 with 2 halves ahead of 1 with 3; in the eighth 1 is left with one half.
        Edges.due("released in the seventh, won in the eighth", hall.foresee(), 0);
        Edges.due("eight", hall.needs(), 8);
    }

    // the BALLOTS that are FORESEEN are counted on from those that were
    private static void foreseenBallotsAreCountedOn() {
        RollHall hall = hall();
        Due.seat(hall, BOUND, 0, 406, 1);
        Due.whole(hall, 0, 1);
        for (int were = 0; were < 6; were++) {
            Edges.due("1, when " + were + " were", hall.foresee(), 1);
            Edges.due("needs, when " + were + " were", hall.needs(), Math.max(5 - were, 1));
            hall.ballot();
        }
    }

    private static void foreseenRulesAreOfTheirBallots() {
        RollHall hall = hall();
        Due.whole(hall, 0, 1);
        Due.whole(hall, 0, 2);
        Due.rule(hall, "name rank 0 need 0 of 1 if ballots=5");
        for (int were = 0; were <= 5; were++) {
            Edges.due("needs, when " + were + " were", hall.needs(), 6 - were);
            Edges.due("1, when " + were + " were", hall.foresee(), 1);
            hall.ballot();
        }
        Edges.due("too late for the rule", hall.foresee(), NONE);
        Edges.due("eight", hall.needs(), 8);
    }

    // "(All is as before then.)"
    private static void foreseeingLeavesAllAsItWas() {
        Edges.noTrace("foresee", BallotEdgesTest::begin, RollHall::foresee);
        Edges.noTrace("needs", BallotEdgesTest::begin, RollHall::needs);
        Edges.noTrace("turned", BallotEdgesTest::begin, RollHall::turned);
        Edges.noTrace("had", BallotEdgesTest::begin, h -> h.had(1));
        RollHall hall = new RollHall();
        begin(hall);
        hall.foresee();
        hall.needs();
        hall.turned();
        Edges.due("one ballot", hall.count(4), 1);
        Edges.due("told as before", hall.bind(3, -1), 6);
        for (int name = 0; name < 8; name++) {
            Edges.due("released " + name, hall.release(name, 0), name == 5 ? 1 : 0);
        }
    }

    // foresee, needs and turned tell no REFUSAL of a SESSION that is over
    private static void behindTheEndAllIsForeseen() {
        RollHall hall = hall();
        Due.whole(hall, 0, 4);
        hall.move(4, 0);
        hall.vote(1);
        Edges.due("over", hall.count(5), 1);
        Edges.due("foresee", hall.foresee(), 4);
        Edges.due("needs", hall.needs(), 1);
        Edges.due("turned", hall.turned(), 0);
    }

    // "TURNED: the least STATE s"
    private static void turnedIsTheLeastState() {
        for (int state = 0; state < 8; state++) {
            RollHall hall = hall();
            Due.whole(hall, state, 3);
            Edges.due("state " + state, hall.turned(), 10 * state);
        }
        RollHall hall = hall();
        Due.whole(hall, 6, 3);
        Due.whole(hall, 2, 3);
        Due.whole(hall, 4, 3);
        Edges.due("no one of three", hall.turned(), NONE);
        hall.out(2, 1);
        Edges.due("2 ahead of 6", hall.turned(), 20);
    }

    // "with the least NAME x"
    private static void turnedIsToTheLeastName() {
        RollHall hall = hall();
        Due.whole(hall, 0, 0);
        Edges.due("from 0 to 1", hall.turned(), 1);
        hall.unlike(0);
        hall.like(0, 1);
        Edges.due("from 1 to 0", hall.turned(), 0);
    }

    private static void theGreatestStateAndNameTurnIt() {
        RollHall hall = hall();
        for (int state = 0; state < 7; state++) {
            Due.seat(hall, HALF, state, 0);
            if (state < 4) {
                hall.like(state, 7);
            }
        }
        Due.whole(hall, 7);
        Due.whole(hall, 7);
        // 7 has 4 of 11 halves; with STATE 7, and with it alone, it has 8.
        Edges.due("no name", hall.foresee(), NONE);
        Edges.due("state 7, name 7", hall.turned(), 77);
    }

    // "FORESEEN ends with another NAME (or none, or one) than without"
    private static void turnedToNoneAndToOne() {
        RollHall hall = hall();
        Due.whole(hall, 1, 4);
        Due.seat(hall, HALF, 2, 0);
        Edges.due("from 4 to another", hall.turned(), 10);
        Due.rule(hall, "name rank 0 need 1 of 1");
        hall.like(1, 4);
        Edges.due("all for 4", hall.foresee(), 4);
        Edges.due("from 4 to none", hall.turned(), 10);
        hall.unlike(1);
        Edges.due("none without all", hall.foresee(), NONE);
        Edges.due("from none to 4", hall.turned(), 24);
    }

    /** It is held against FORESEEN as all stands, a STATE that is told included. */
    private static void turnedIsFromWhatIsTold() {
        RollHall hall = hall();
        Due.whole(hall, 3, 5);
        hall.bind(3, 0);
        Edges.due("from 0 to 1", hall.turned(), 31);
        hall.bind(3, 1);
        Edges.due("from 1 to 0", hall.turned(), 30);
        Edges.due("told as before", hall.bind(3, -1), 1);
    }

    private static void aStateTurnsWithThoseOfItThatVote() {
        RollHall hall = hall();
        Due.whole(hall, 5, 3);
        Due.whole(hall, 5, 3);
        hall.out(1, 1);
        Edges.due("the first votes", hall.turned(), 50);
        hall.out(0, 1);
        hall.out(1, 0);
        Edges.due("the second votes", hall.turned(), 50);
    }

    // turned: "NONE: none"
    private static void nothingTurnsIt() {
        Edges.due("no seat", new RollHall().turned(), NONE);
        RollHall hall = hall();
        for (int s = 0; s < 3; s++) {
            Due.whole(hall, s, 2);
        }
        Edges.due("no one of three states", hall.turned(), NONE);
        RollHall out = hall();
        Due.whole(out, 0, 2);
        out.out(0, 1);
        Edges.due("nobody votes", out.turned(), NONE);
    }

    /** To a RELEASED NAME a STATE can turn, too: it is told, RELEASED or not. */
    private static void turnedToAReleasedName() {
        RollHall hall = hall();
        Due.whole(hall, 0, 3);
        hall.release(0, 1);
        Edges.due("to 0", hall.turned(), 0);
    }
}
