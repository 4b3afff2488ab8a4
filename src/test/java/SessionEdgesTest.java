/** The edges of THE SESSION: part 3 of the document's terms, and promises 14 to 16. */
public final class SessionEdgesTest {
    private static final int NONE = RollHall.NONE, BAD = RollHall.BAD, STATE = RollHall.STATE, FULL = RollHall.FULL;
    private static final int LEAST = Integer.MIN_VALUE, GREATEST = Integer.MAX_VALUE;
    private static final int PLANK = 0, SEAT = 1, APPEAL = 2, NAME = 3, CLOSE = 4;

    public static void main(String[] args) throws ReflectiveOperationException {
        Edges.run(SessionEdgesTest.class);
    }

    /** Two MEETINGS, three WHOLE SEATS, a RIVAL one (3) and two PLANKS of one WORD each. */
    private static void begin(RollHall hall) {
        hall.meeting(0, NONE, 7, 5);
        hall.meeting(0, NONE, 7, 5);
        for (int s = 0; s < 3; s++) {
            hall.seat(0, s, 0, 0);
        }
        hall.seat(4, 0, 0, 1);
        for (int p = 0; p < 2; p++) {
            hall.plank();
            hall.amend(p, 0, 100 + p);
        }
    }

    private static RollHall begun() {
        RollHall hall = new RollHall();
        begin(hall);
        return hall;
    }

    /** A plank's rank is then as many as are open, so that six of them can lie on one another. */
    private static void rankByDepth(RollHall hall) {
        for (int depth = 1; depth <= 6; depth++) {
            Due.rule(hall, "plank rank " + depth + " need 1 of 2 if depth=" + depth);
        }
    }

    private static void pileUp(RollHall hall) {
        begin(hall);
        rankByDepth(hall);
        for (int i = 0; i < 6; i++) {
            hall.move(PLANK, 0);
        }
    }

    private static void close(RollHall hall) {
        begin(hall);
        carry(hall, CLOSE, 0);
    }

    /** Moves and carries; the three WHOLE SEATS are more than half whoever else VOTES. */
    private static void carry(RollHall hall, int key, int number) {
        Edges.due("moved " + key + " " + number, hall.move(key, number), 1);
        Edges.due("carried " + key + " " + number, hall.vote(7), 1);
    }

    /** A hall of so many HALF SEATS, with a MOTION open that needs n of m. */
    private static RollHall asked(int seats, int n, int m) {
        RollHall hall = Due.hall();
        for (int s = 0; s < seats; s++) {
            hall.seat(1, 0, 0, 0);
        }
        Due.rule(hall, "name rank 0 need " + n + " of " + m);
        hall.move(NAME, 6);
        return hall;
    }

    /** How a vote of so many of the SEATS ends. */
    private static int voteOf(int yes, int seats, int n, int m) {
        return asked(seats, n, m).vote((1 << yes) - 1);
    }

    // "MOTIONS that are open lie on a pile, 6 at most"
    private static void sixMotionsAtMost() {
        RollHall hall = begun();
        rankByDepth(hall);
        for (int i = 1; i <= 6; i++) {
            Edges.due("motion " + i, hall.move(PLANK, 0), i);
        }
        Edges.due("how many", hall.count(3), 6);
        Edges.refused("the 7th", SessionEdgesTest::pileUp, h -> h.move(PLANK, 0), FULL);
        hall.vote(0);
        Edges.due("room again", hall.move(PLANK, 1), 6);
    }

    // move: "STATE: THE SESSION is over; its rank is not greater; FULL", of several the first one told
    private static void stateIsToldAheadOfFull() {
        Edges.refused("rank 0 on six", SessionEdgesTest::pileUp, h -> h.move(NAME, 0), STATE);
        Edges.refused("the uppermost rank on six", h -> {
            pileUp(h);
            Due.rule(h, "name rank 5 need 1 of 2");
        }, h -> h.move(NAME, 0), STATE);
    }

    private static void noneIsToldAheadOfFull() {
        Edges.refused("plank 2", SessionEdgesTest::pileUp, h -> h.move(PLANK, 2), NONE);
        Edges.refused("key 5", SessionEdgesTest::pileUp, h -> h.move(5, 0), NONE);
    }

    private static void noneIsToldAheadOfState() {
        Edges.refused("plank 2, over", SessionEdgesTest::close, h -> h.move(PLANK, 2), NONE);
        Edges.refused("seat 0, over", SessionEdgesTest::close, h -> h.move(SEAT, 0), NONE);
        Edges.refused("appeal 1, over", SessionEdgesTest::close, h -> h.move(APPEAL, 1), NONE);
        Edges.refused("name 8, over", SessionEdgesTest::close, h -> h.move(NAME, 8), NONE);
        Edges.refused("key 5, over", SessionEdgesTest::close, h -> h.move(5, 0), NONE);
        Edges.refused("name 8, no greater rank", h -> {
            begin(h);
            h.move(NAME, 0);
        }, h -> h.move(NAME, 8), NONE);
    }

    // "MOVED can be what has a greater rank than the uppermost one"
    private static void theRankIsGreaterThanTheUppermost() {
        Edges.Steps ranks = h -> {
            begin(h);
            Due.rule(h, "seat rank 4 need 1 of 2");
            Due.rule(h, "appeal rank 3 need 1 of 2");
            Due.rule(h, "name rank 4 need 1 of 2");
            Due.rule(h, "close rank 5 need 1 of 2");
            h.move(PLANK, 0);
            h.move(SEAT, 3);
        };
        Edges.refused("a lesser one", ranks, h -> h.move(APPEAL, 0), STATE);
        Edges.refused("an equal one", ranks, h -> h.move(NAME, 0), STATE);
        Edges.refused("the lowest one", ranks, h -> h.move(PLANK, 1), STATE);
        RollHall hall = new RollHall();
        ranks.on(hall);
        Edges.due("a greater one", hall.move(CLOSE, 0), 3);
        hall.vote(0);
        hall.vote(0);
        Edges.due("what was too low lies on the next", hall.move(APPEAL, 0), 2);
    }

    // "(or the pile is empty)"
    private static void onAnEmptyPileAnyRankWillDo() {
        RollHall hall = begun();
        Edges.due("rank 0", hall.move(PLANK, 0), 1);
        hall.vote(0);
        Due.rule(hall, "plank rank 9 need 1 of 2");
        Edges.due("rank 9", hall.move(PLANK, 0), 1);
        hall.vote(0);
        Edges.due("rank 0 behind rank 9", hall.move(NAME, 0), 1);
    }

    // "its rank and need as the RULE was when it was MOVED"
    private static void rankAndNeedAreOfWhenItWasMoved() {
        RollHall hall = begun();
        Due.rule(hall, "plank rank 2 need 3 of 4");
        hall.move(PLANK, 0);
        Due.rule(hall, "plank rank 8 need 0 of 1");
        Due.rule(hall, "name rank 3 need 1 of 2");
        Edges.due("rank", hall.motion(0, 2), 2);
        Edges.due("N", hall.motion(0, 3), 3);
        Edges.due("M", hall.motion(0, 4), 4);
        Edges.due("a rank between both lies on it", hall.move(NAME, 0), 2);
        hall.vote(0);
        Edges.due("4 of 6 are not 3 of 4", hall.vote(3), 0);
        hall.move(PLANK, 0);
        Edges.due("the new need", hall.vote(0), 1);
    }

    /** A TEST of depth looks at those that are open ahead of the MOTION, not at itself. */
    private static void depthIsOfTheOthers() {
        RollHall hall = begun();
        Due.rule(hall, "name rank 5 need 2 of 3 if depth=0");
        Due.rule(hall, "name rank 6 need 3 of 4 if depth=1");
        hall.move(NAME, 0);
        Edges.due("the first", hall.motion(0, 2), 5);
        hall.move(NAME, 0);
        Edges.due("the second", hall.motion(1, 2), 6);
    }

    // "A vote ends the uppermost one"
    private static void aVoteEndsTheUppermost() {
        RollHall hall = begun();
        Due.rule(hall, "name rank 1 need 1 of 2");
        Due.rule(hall, "seat rank 2 need 1 of 2");
        hall.move(PLANK, 1);
        hall.move(NAME, 5);
        hall.move(SEAT, 3);
        Edges.due("carried", hall.vote(7), 1);
        Edges.due("two are open", hall.count(3), 2);
        Edges.due("the uppermost did it", hall.about(3, 4), 1);
        Edges.due("not carried", hall.vote(0), 0);
        Edges.due("one is open", hall.count(3), 1);
        Edges.due("nothing by that one", hall.count(6), NONE);
        Edges.due("the lowest is as it was", hall.motion(0, 1), 1);
        Edges.due("carried", hall.vote(15), 1);
        Edges.due("none is open", hall.count(3), 0);
        Edges.due("that plank", hall.taken(1), 1);
        Edges.due("not the other", hall.taken(0), 0);
    }

    // "if a M is not less than b N"
    private static void aShareThatIsEqualMakesIt() {
        int[][] needs = {{2, 3}, {1, 3}, {3, 4}, {1, 4}, {4, 6}, {5, 6}, {1, 1}, {5, 8}};
        for (int[] need : needs) {
            int seats = 2 * need[1];
            int just = 2 * need[0];
            String name = need[0] + " of " + need[1];
            Edges.due("just " + name, voteOf(just, seats, need[0], need[1]), 1);
            Edges.due("less than " + name, voteOf(just - 1, seats, need[0], need[1]), 0);
        }
        Edges.due("2 of 3, of seven: 4", voteOf(4, 7, 2, 3), 0);
        Edges.due("2 of 3, of seven: 5", voteOf(5, 7, 2, 3), 1);
    }

    // "and if 2 N is M, is more"
    private static void halfOfAllIsNotEnoughForHalf() {
        for (int n = 1; n <= 4; n++) {
            Edges.due("half, " + n, voteOf(4, 8, n, 2 * n), 0);
            Edges.due("more, " + n, voteOf(5, 8, n, 2 * n), 1);
            Edges.due("3 of 7, " + n, voteOf(3, 7, n, 2 * n), 0);
            Edges.due("4 of 7, " + n, voteOf(4, 7, n, 2 * n), 1);
        }
    }

    private static void aNeedOfNothingIsMadeByNobody() {
        for (int m = 1; m < 10; m++) {
            Edges.due("0 of " + m, voteOf(0, 5, 0, m), 1);
        }
    }

    private static void aNeedAboveAllIsNeverMade() {
        Edges.due("all, 2 of 1", voteOf(5, 5, 2, 1), 0);
        Edges.due("all, 9 of 8", voteOf(5, 5, 9, 8), 0);
        Edges.due("all, 9 of 1", voteOf(30, 30, 9, 1), 0);
    }

    /** 0 is not less than 0, and not more. */
    private static void whereNobodyVotesAllButHalfIsMade() {
        Edges.due("1 of 2", voteOf(0, 0, 1, 2), 0);
        Edges.due("4 of 8", voteOf(0, 0, 4, 8), 0);
        Edges.due("2 of 3", voteOf(0, 0, 2, 3), 1);
        Edges.due("1 of 1", voteOf(0, 0, 1, 1), 1);
        Edges.due("9 of 1", voteOf(0, 0, 9, 1), 1);
    }

    // "those SEATS that say yes, by their halves"
    private static void yesIsCountedByHalves() {
        for (int yes = 0; yes < 8; yes++) {
            RollHall hall = Due.hall();
            hall.seat(1, 0, 0, 0);
            hall.seat(1, 0, 0, 0);
            hall.seat(0, 0, 0, 0);
            hall.move(NAME, 0);
            int halves = (yes & 1) + (yes >> 1 & 1) + 2 * (yes >> 2 & 1);
            Edges.due("yes " + yes, hall.vote(yes), halves > 2 ? 1 : 0);
        }
    }

    // "of all that VOTE"
    private static void thoseThatDoNotVoteDoNotCount() {
        RollHall hall = begun();
        hall.out(2, 1);
        hall.move(NAME, 1);
        Edges.due("half, and two that do not vote", hall.vote(1 + 4 + 8), 0);
        hall.move(NAME, 1);
        Edges.due("all that vote", hall.vote(3), 1);
        hall.out(1, 1);
        hall.move(NAME, 2);
        Edges.due("the only one that votes", hall.vote(1), 1);
    }

    // vote: "BAD: yes has a bit of no SEAT"
    private static void yesHasBitsOfSeatsAlone() {
        Edges.Steps open = h -> {
            begin(h);
            h.move(PLANK, 0);
        };
        for (int yes : new int[] {16, 31, 1 << 29, 1 << 30, LEAST, GREATEST, -1, -16}) {
            Edges.refused("yes " + yes, open, h -> h.vote(yes), BAD);
        }
        RollHall hall = new RollHall();
        open.on(hall);
        Edges.due("all four", hall.vote(15), 1);
    }

    private static void withoutSeatsNobodySaysYes() {
        Edges.Steps open = h -> h.move(NAME, 0);
        Edges.refused("yes 1", open, h -> h.vote(1), BAD);
        Edges.refused("yes -1", open, h -> h.vote(-1), BAD);
        RollHall hall = new RollHall();
        open.on(hall);
        Edges.due("yes 0", hall.vote(0), 0);
    }

    private static void thirtySeatsSayYes() {
        Edges.Steps open = h -> {
            h.meeting(0, NONE, 7, 5);
            for (int s = 0; s < 30; s++) {
                h.seat(s == 29 ? 0 : 1, 0, 0, 0);
            }
            Due.rule(h, "name rank 0 need 1 of 1");
            h.move(NAME, 3);
        };
        Edges.refused("bit 30", open, h -> h.vote(1 << 30), BAD);
        Edges.refused("bit 31", open, h -> h.vote(1 << 31), BAD);
        Edges.refused("all bits", open, h -> h.vote(-1), BAD);
        RollHall hall = new RollHall();
        open.on(hall);
        Edges.due("all but the last", hall.vote((1 << 29) - 1), 0);
        hall.move(NAME, 3);
        Edges.due("all", hall.vote((1 << 30) - 1), 1);
    }

    // vote: "STATE: no MOTION is open"; BAD is told ahead of it
    private static void aVoteNeedsAMotion() {
        Edges.refused("none moved", SessionEdgesTest::begin, h -> h.vote(7), STATE);
        Edges.refused("bad ahead of state", SessionEdgesTest::begin, h -> h.vote(16), BAD);
        Edges.refused("over", SessionEdgesTest::close, h -> h.vote(7), STATE);
        Edges.refused("bad ahead of state, over", SessionEdgesTest::close, h -> h.vote(16), BAD);
        Edges.refused("ended", h -> {
            begin(h);
            h.move(PLANK, 0);
            h.vote(0);
        }, h -> h.vote(7), STATE);
    }

    // move: "NONE: key"
    private static void thereAreFiveKeysToMove() {
        for (int key : new int[] {-1, 5, LEAST, GREATEST}) {
            Edges.refused("key " + key, SessionEdgesTest::begin, h -> h.move(key, 0), NONE);
        }
    }

    // move: "what number tells (a PLANK"
    private static void aPlankIsMovedThatIsThere() {
        for (int number : new int[] {-1, 2, 8, LEAST, GREATEST}) {
            Edges.refused("plank " + number, SessionEdgesTest::begin, h -> h.move(PLANK, number), NONE);
        }
        Edges.refused("no plank at all", h -> { }, h -> h.move(PLANK, 0), NONE);
        Edges.due("the first", begun().move(PLANK, 0), 1);
        Edges.due("the last", begun().move(PLANK, 1), 1);
    }

    // move: "a RIVAL SEAT as told"
    private static void aRivalSeatIsMovedThatIsThere() {
        for (int number : new int[] {0, 2, 4, 29, 30, 32, 34, 59, -1, LEAST}) {
            Edges.refused("seat " + number, SessionEdgesTest::begin, h -> h.move(SEAT, number), NONE);
        }
        Edges.Steps kinds = h -> {
            begin(h);
            h.seat(1, 0, 0, 0);
            h.seat(2, 0, 0, 0);
            h.seat(3, 0, 0, 0);
            h.seat(5, 0, 0, 3);
        };
        for (int number = 4; number <= 7; number++) {
            int s = number;
            Edges.refused("of another kind, seat " + s, kinds, h -> h.move(SEAT, s), NONE);
            Edges.refused("of another kind, claim 2 of seat " + s, kinds, h -> h.move(SEAT, 30 + s), NONE);
        }
        Edges.refused("no seat at all", h -> { }, h -> h.move(SEAT, 0), NONE);
        Edges.refused("no seat at all, claim 2", h -> { }, h -> h.move(SEAT, 30), NONE);
        Edges.due("claim 1", begun().move(SEAT, 3), 1);
        Edges.due("claim 2", begun().move(SEAT, 33), 1);
    }

    // move: "a NAME"
    private static void aNameIsMovedThatIsThere() {
        for (int number : new int[] {-1, 8, LEAST, GREATEST}) {
            Edges.refused("name " + number, SessionEdgesTest::begin, h -> h.move(NAME, number), NONE);
        }
        Edges.due("the first", begun().move(NAME, 0), 1);
        Edges.due("the last", begun().move(NAME, 7), 1);
    }

    // move: "of others not 0"
    private static void appealAndCloseTellNothing() {
        for (int number : new int[] {-1, 1, LEAST, GREATEST}) {
            Edges.refused("appeal " + number, SessionEdgesTest::begin, h -> h.move(APPEAL, number), NONE);
            Edges.refused("close " + number, SessionEdgesTest::begin, h -> h.move(CLOSE, number), NONE);
        }
        Edges.due("appeal 0", begun().move(APPEAL, 0), 1);
        Edges.due("close 0", begun().move(CLOSE, 0), 1);
    }

    // "plank: that PLANK is TAKEN, if it was not, else not"
    private static void aPlankIsTakenAndGivenBack() {
        RollHall hall = begun();
        carry(hall, PLANK, 1);
        Edges.due("taken", hall.taken(1), 1);
        Edges.due("the other is not", hall.taken(0), 0);
        carry(hall, PLANK, 1);
        Edges.due("given back", hall.taken(1), 0);
        carry(hall, PLANK, 1);
        Edges.due("taken again", hall.taken(1), 1);
    }

    /** It is looked at when the MOTION is CARRIED, not when it was MOVED. */
    private static void aPlankIsLookedAtWhenCarried() {
        RollHall hall = begun();
        Due.rule(hall, "plank rank 1 need 1 of 2 if depth=1");
        hall.move(PLANK, 0);
        hall.move(PLANK, 0);
        hall.vote(7);
        Edges.due("by the uppermost", hall.taken(0), 1);
        hall.vote(7);
        Edges.due("by the lower one", hall.taken(0), 0);
    }

    // "seat: that RIVAL SEAT, of (number modulo 30), is SEATED for claim 1, of a number of 30 or more for claim 2"
    private static void aNumberOfThirtyOrMoreTellsClaimTwo() {
        Edges.Steps ends = h -> {
            h.meeting(0, NONE, 7, 5);
            h.meeting(0, NONE, 7, 5);
            for (int s = 0; s < 30; s++) {
                h.seat(s == 0 || s == 29 ? 4 : 1, 0, 0, s == 0 || s == 29 ? 1 : 0);
            }
        };
        int[][] cases = {{0, 0, 1}, {29, 29, 1}, {30, 0, 2}, {59, 29, 2}, {60, 0, 2}, {89, 29, 2}};
        for (int[] c : cases) {
            RollHall hall = new RollHall();
            ends.on(hall);
            Edges.due("move " + c[0], hall.move(SEAT, c[0]), 1);
            Edges.due("its number " + c[0], hall.motion(0, 1), c[0]);
            hall.vote((1 << 30) - 1);
            Edges.due("seated by " + c[0], hall.about(c[1], 4), c[2]);
            Edges.due("not the other one by " + c[0], hall.about(29 - c[1], 4), 0);
        }
        Edges.refused("28", ends, h -> h.move(SEAT, 28), NONE);
        Edges.refused("31", ends, h -> h.move(SEAT, 31), NONE);
        Edges.refused("58", ends, h -> h.move(SEAT, 58), NONE);
    }

    private static void aMotionThatFailsChangesNothing() {
        for (int[] m : new int[][] {{PLANK, 0}, {SEAT, 33}, {APPEAL, 0}, {NAME, 2}, {CLOSE, 0}}) {
            Edges.noTrace("key " + m[0], h -> {
                begin(h);
                carry(h, NAME, 6);
            }, h -> {
                h.move(m[0], m[1]);
                Edges.due("fails, key " + m[0], h.vote(0), 0);
            });
        }
    }

    // "name: THE NOMINEE is that NAME"
    private static void theNomineeIsTheLatestName() {
        RollHall hall = begun();
        Edges.due("none at first", hall.count(6), NONE);
        carry(hall, NAME, 0);
        Edges.due("name 0", hall.count(6), 0);
        carry(hall, NAME, 7);
        Edges.due("name 7", hall.count(6), 7);
    }

    // "appeal: the latest RULING that stands ..., if there is one, is undone"
    private static void anAppealWithoutARulingIsCarried() {
        RollHall hall = begun();
        carry(hall, APPEAL, 0);
        Edges.due("no ruling", hall.count(8), 0);
        Edges.due("no nominee", hall.count(6), NONE);
        carry(hall, PLANK, 0);
        carry(hall, APPEAL, 0);
        carry(hall, APPEAL, 0);
        Edges.due("one appeal too many", hall.taken(0), 0);
        Edges.due("no ruling again", hall.count(8), 0);
    }

    // "what it changed is as it was ahead of it"
    private static void anAppealPutsBackWhatWas() {
        RollHall hall = begun();
        carry(hall, SEAT, 33);
        carry(hall, NAME, 4);
        carry(hall, PLANK, 0);
        carry(hall, PLANK, 0);
        carry(hall, NAME, 5);
        carry(hall, SEAT, 3);
        int[][] want = {{2, 5, 0}, {2, 4, 0}, {2, 4, 1}, {2, 4, 0}, {2, NONE, 0}, {0, NONE, 0}};
        for (int i = 0; i < want.length; i++) {
            Edges.due("rulings ahead of appeal " + i, hall.count(8), 6 - i);
            carry(hall, APPEAL, 0);
            Edges.due("seated, appeal " + i, hall.about(3, 4), want[i][0]);
            Edges.due("nominee, appeal " + i, hall.count(6), want[i][1]);
            Edges.due("taken, appeal " + i, hall.taken(0), want[i][2]);
        }
        Edges.due("none is left", hall.count(8), 0);
    }

    // "the latest RULING that stands": one that was undone stands no more
    private static void anUndoneRulingStandsNoMore() {
        RollHall hall = begun();
        carry(hall, NAME, 1);
        carry(hall, NAME, 2);
        carry(hall, APPEAL, 0);
        carry(hall, NAME, 3);
        Edges.due("two stand", hall.count(8), 2);
        carry(hall, APPEAL, 0);
        Edges.due("as ahead of the third", hall.count(6), 1);
        carry(hall, APPEAL, 0);
        Edges.due("as ahead of the first", hall.count(6), NONE);
    }

    // "(a CARRIED MOTION that is no appeal, no close)"
    private static void appealAndCloseAndFailuresAreNoRulings() {
        RollHall hall = begun();
        carry(hall, APPEAL, 0);
        Edges.due("an appeal", hall.count(8), 0);
        hall.move(PLANK, 0);
        hall.vote(0);
        Edges.due("one that failed", hall.count(8), 0);
        carry(hall, NAME, 0);
        hall.move(APPEAL, 0);
        hall.vote(0);
        Edges.due("an appeal that failed", hall.count(8), 1);
        carry(hall, CLOSE, 0);
        Edges.due("a close", hall.count(8), 1);
    }

    /** A RULING that leaves all as it was is one, too: an appeal undoes it, and no other. */
    private static void aRulingThatChangesNothingIsOne() {
        RollHall hall = begun();
        carry(hall, NAME, 4);
        carry(hall, NAME, 4);
        carry(hall, SEAT, 3);
        carry(hall, SEAT, 3);
        Edges.due("four", hall.count(8), 4);
        carry(hall, APPEAL, 0);
        Edges.due("seated as before", hall.about(3, 4), 1);
        carry(hall, APPEAL, 0);
        Edges.due("not seated", hall.about(3, 4), 0);
        carry(hall, APPEAL, 0);
        Edges.due("still the nominee", hall.count(6), 4);
    }

    // "close: THE SESSION is over, all other MOTIONS fall"
    private static void aCloseEndsAll() {
        RollHall hall = begun();
        Due.rule(hall, "name rank 1 need 1 of 2");
        Due.rule(hall, "close rank 2 need 1 of 2");
        hall.move(PLANK, 0);
        hall.move(NAME, 1);
        hall.move(CLOSE, 0);
        Edges.due("carried", hall.vote(7), 1);
        Edges.due("over", hall.count(5), 1);
        Edges.due("none is open", hall.count(3), 0);
        Edges.due("none to see", hall.motion(0, 0), NONE);
        Edges.due("the plank fell", hall.taken(0), 0);
        Edges.due("the name fell", hall.count(6), NONE);
    }

    private static void aCloseThatFailsEndsNothing() {
        RollHall hall = begun();
        Due.rule(hall, "close rank 2 need 1 of 2");
        hall.move(PLANK, 0);
        hall.move(CLOSE, 0);
        Edges.due("fails", hall.vote(1), 0);
        Edges.due("on", hall.count(5), 0);
        Edges.due("the other is open", hall.count(3), 1);
        Edges.due("and can be carried", hall.vote(7), 1);
    }

    // move: "STATE: THE SESSION is over"
    private static void behindTheEndNothingIsMoved() {
        for (int[] m : new int[][] {{PLANK, 0}, {SEAT, 3}, {SEAT, 33}, {APPEAL, 0}, {NAME, 0}, {CLOSE, 0}}) {
            Edges.refused("key " + m[0], SessionEdgesTest::close, h -> h.move(m[0], m[1]), STATE);
        }
    }

    // "40 RULINGS at most are kept (the oldest ones can't be undone then)"
    private static void fortyRulingsAreKept() {
        for (int rulings = 39; rulings <= 42; rulings++) {
            RollHall hall = begun();
            int kept = Math.min(rulings, 40);
            for (int i = 0; i < rulings; i++) {
                carry(hall, NAME, i % 7);
                Edges.due("kept of " + (i + 1), hall.count(8), Math.min(i + 1, 40));
            }
            for (int i = 1; i <= kept; i++) {
                int left = rulings - i;
                carry(hall, APPEAL, 0);
                Edges.due("nominee, " + left + " left of " + rulings, hall.count(6), left == 0 ? NONE : (left - 1) % 7);
                Edges.due("to be undone, of " + rulings, hall.count(8), kept - i);
            }
            int stays = hall.count(6);
            carry(hall, APPEAL, 0);
            Edges.due("the older ones stand, of " + rulings, hall.count(6), stays);
        }
    }

    // "from the lowest on"
    private static void motionsAreCountedFromTheLowest() {
        RollHall hall = begun();
        Due.rule(hall, "name rank 3 need 4 of 5");
        hall.move(PLANK, 1);
        hall.move(NAME, 6);
        int[][] want = {{PLANK, 1, 0, 1, 2}, {NAME, 6, 3, 4, 5}};
        for (int i = 0; i < 2; i++) {
            for (int what = 0; what < 5; what++) {
                Edges.due("motion " + i + " " + what, hall.motion(i, what), want[i][what]);
            }
        }
    }

    // motion: "NONE"
    private static void motionsAreThoseThatAreOpen() {
        Edges.Steps two = h -> {
            begin(h);
            Due.rule(h, "name rank 3 need 4 of 5");
            h.move(PLANK, 1);
            h.move(NAME, 6);
        };
        for (int i : new int[] {-1, 2, 6, LEAST, GREATEST}) {
            Edges.refused("i " + i, two, h -> h.motion(i, 0), NONE);
        }
        for (int what : new int[] {-1, 5, LEAST, GREATEST}) {
            Edges.refused("what " + what, two, h -> h.motion(1, what), NONE);
        }
        Edges.refused("none is open", SessionEdgesTest::begin, h -> h.motion(0, 0), NONE);
        Edges.refused("the seventh", SessionEdgesTest::pileUp, h -> h.motion(6, 0), NONE);
        RollHall hall = new RollHall();
        pileUp(hall);
        Edges.due("the sixth", hall.motion(5, 2), 5);
    }

    private static void looksLeaveAllAsItWas() {
        Edges.noTrace("motion", SessionEdgesTest::pileUp, h -> {
            for (int what = 0; what < 5; what++) {
                h.motion(5, what);
            }
        });
    }
}
