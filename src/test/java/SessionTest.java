/** Promises 14 to 16: move, vote, motion. */
public final class SessionTest {
    private static final Due DUE = new Due();

    public static void main(String[] args) {
        moveAsksForItsThing();
        moveAsksForAGreaterRank();
        pilesFillUp();
        needIsOfWhenItWasMoved();
        voteRefuses();
        halfIsNotEnoughOfHalf();
        otherSharesAreEnoughWhenEqual();
        onlyThoseThatVoteCount();
        nobodyVotes();
        planksAreTakenAndGivenBack();
        rivalsAreSeated();
        appealsUndoTheLatest();
        appealsOfNothing();
        closeEndsAll();
        fortyRulingsAreKept();
        keptRulingsStayWhole();
        DUE.end();
    }

    /** A hall with three WHOLE SEATS, a RIVAL one (3) and a PLANK. */
    private static RollHall begun() {
        RollHall hall = Due.hall();
        hall.meeting(0, RollHall.NONE, 7, 5);
        Due.whole(hall, 0);
        Due.whole(hall, 1);
        Due.whole(hall, 2);
        hall.seat(4, 0, 0, 1);
        hall.plank();
        return hall;
    }

    private static void moveAsksForItsThing() {
        RollHall hall = begun();
        int[][] none = {{-1, 0}, {5, 0}, {0, -1}, {0, 1}, {1, 0}, {1, 2}, {1, 4}, {1, 30}, {1, 34}, {1, -1},
            {2, 1}, {2, -1}, {3, -1}, {3, 8}, {4, 1}, {4, -1}, {1, Integer.MIN_VALUE}};
        for (int[] m : none) {
            DUE.is("move " + m[0] + " " + m[1], hall.move(m[0], m[1]), RollHall.NONE);
        }
        int[][] fine = {{0, 0}, {1, 3}, {1, 33}, {2, 0}, {3, 0}, {3, 7}, {4, 0}};
        for (int[] m : fine) {
            DUE.is("move " + m[0] + " " + m[1], hall.move(m[0], m[1]), 1);
            DUE.is("key", hall.motion(0, 0), m[0]);
            DUE.is("number", hall.motion(0, 1), m[1]);
            DUE.is("rank without a rule", hall.motion(0, 2), 0);
            DUE.is("need without a rule", hall.motion(0, 3), 1);
            DUE.is("parts without a rule", hall.motion(0, 4), 2);
            hall.vote(0);
        }
    }

    private static void moveAsksForAGreaterRank() {
        RollHall hall = begun();
        Due.rule(hall, "seat rank 2 need 3 of 4");
        Due.rule(hall, "name rank 2 need 5 of 6");
        Due.rule(hall, "close rank 3 need 7 of 8");
        DUE.is("plank, rank 0", hall.move(0, 0), 1);
        DUE.is("rank 0 again", hall.move(2, 0), RollHall.STATE);
        DUE.is("rank 2", hall.move(1, 3), 2);
        DUE.is("rank 2 again", hall.move(3, 0), RollHall.STATE);
        DUE.is("none ahead of state", hall.move(3, 8), RollHall.NONE);
        DUE.is("rank 3", hall.move(4, 0), 3);
        DUE.is("open", hall.count(3), 3);
        int[][] want = {{0, 0, 0, 1, 2}, {1, 3, 2, 3, 4}, {4, 0, 3, 7, 8}};
        for (int i = 0; i < 3; i++) {
            for (int what = 0; what < 5; what++) {
                DUE.is("motion " + i + " " + what, hall.motion(i, what), want[i][what]);
            }
        }
        DUE.is("motion 3", hall.motion(3, 0), RollHall.NONE);
        DUE.is("motion -1", hall.motion(-1, 0), RollHall.NONE);
        DUE.is("what 5", hall.motion(0, 5), RollHall.NONE);
        DUE.is("what -1", hall.motion(0, -1), RollHall.NONE);
    }

    private static void pilesFillUp() {
        RollHall hall = begun();
        for (int i = 1; i < 8; i++) {
            Due.rule(hall, "plank rank " + i + " need 1 of 1 if depth=" + i);
        }
        for (int i = 1; i <= 6; i++) {
            DUE.is("move " + i, hall.move(0, 0), i);
        }
        DUE.is("the 7th", hall.move(0, 0), RollHall.FULL);
        DUE.is("state ahead of full", hall.move(2, 0), RollHall.STATE);
        DUE.is("open", hall.count(3), 6);
        for (int i = 0; i < 6; i++) {
            DUE.is("rank " + i, hall.motion(i, 2), i);
        }
    }

    private static void needIsOfWhenItWasMoved() {
        RollHall hall = begun();
        Due.rule(hall, "plank rank 1 need 1 of 1");
        hall.move(0, 0);
        Due.rule(hall, "plank rank 1 need 0 of 1");
        DUE.is("need", hall.motion(0, 3), 1);
        DUE.is("not all", hall.vote(3), 0);
        hall.move(0, 0);
        DUE.is("the new need", hall.vote(0), 1);
    }

    private static void voteRefuses() {
        RollHall hall = begun();
        DUE.is("no motion", hall.vote(0), RollHall.STATE);
        DUE.is("bad ahead of state", hall.vote(16), RollHall.BAD);
        hall.move(0, 0);
        DUE.is("bit 4", hall.vote(16), RollHall.BAD);
        DUE.is("bit 31", hall.vote(Integer.MIN_VALUE), RollHall.BAD);
        DUE.is("all bits", hall.vote(-1), RollHall.BAD);
        DUE.is("still open", hall.count(3), 1);
        DUE.is("all seats", hall.vote(15), 1);
        RollHall empty = new RollHall();
        DUE.is("no seat", empty.vote(1), RollHall.BAD);
        RollHall full = Due.hall();
        for (int i = 0; i < 30; i++) {
            Due.whole(full, 0);
        }
        full.move(3, 5);
        DUE.is("bit 30", full.vote(1 << 30), RollHall.BAD);
        DUE.is("all thirty", full.vote((1 << 30) - 1), 1);
    }

    private static void halfIsNotEnoughOfHalf() {
        int[][] cases = {{1, 2}, {2, 4}, {3, 6}, {4, 8}};
        for (int[] c : cases) {
            RollHall hall = Due.hall();
            Due.whole(hall, 0);
            hall.seat(1, 0, 0, 0);
            hall.seat(1, 0, 0, 0);
            Due.rule(hall, "name rank 0 need " + c[0] + " of " + c[1]);
            hall.move(3, 1);
            DUE.is("just half, " + c[1], hall.vote(1), 0);
            hall.move(3, 1);
            DUE.is("the other half, " + c[1], hall.vote(6), 0);
            hall.move(3, 1);
            DUE.is("more, " + c[1], hall.vote(5), 1);
        }
    }

    private static void otherSharesAreEnoughWhenEqual() {
        RollHall hall = begun();
        Due.rule(hall, "name rank 0 need 2 of 3");
        hall.move(3, 1);
        DUE.is("two thirds", hall.vote(3), 1);
        hall.move(3, 1);
        DUE.is("one third", hall.vote(1), 0);
        Due.rule(hall, "name rank 0 need 3 of 2");
        hall.move(3, 1);
        DUE.is("more than all", hall.vote(7), 0);
        Due.rule(hall, "name rank 0 need 0 of 1");
        hall.move(3, 1);
        DUE.is("nothing needed", hall.vote(0), 1);
    }

    private static void onlyThoseThatVoteCount() {
        RollHall hall = begun();
        hall.out(1, 1);
        hall.out(2, 1);
        hall.move(3, 1);
        DUE.is("those that do not vote", hall.vote(14), 0);
        hall.move(3, 1);
        DUE.is("the one that votes", hall.vote(1), 1);
    }

    private static void nobodyVotes() {
        RollHall hall = new RollHall();
        hall.move(3, 1);
        DUE.is("half of nothing is not more", hall.vote(0), 0);
        Due.rule(hall, "name rank 0 need 2 of 3");
        hall.move(3, 1);
        DUE.is("two thirds of nothing", hall.vote(0), 1);
    }

    private static void planksAreTakenAndGivenBack() {
        RollHall hall = begun();
        hall.move(0, 0);
        DUE.is("not carried", hall.vote(0), 0);
        DUE.is("not taken", hall.taken(0), 0);
        hall.move(0, 0);
        hall.vote(7);
        DUE.is("taken", hall.taken(0), 1);
        hall.move(0, 0);
        hall.vote(7);
        DUE.is("not taken any more", hall.taken(0), 0);
        DUE.is("two rulings", hall.count(8), 2);
    }

    private static void rivalsAreSeated() {
        RollHall hall = begun();
        hall.move(1, 3);
        hall.vote(7);
        DUE.is("claim 1", hall.about(3, 4), 1);
        hall.move(1, 33);
        hall.vote(7);
        DUE.is("claim 2", hall.about(3, 4), 2);
        hall.move(1, 63);
        DUE.is("60 and more tell claim 2, too", hall.motion(0, 1), 63);
        hall.vote(7);
        DUE.is("claim 2 again", hall.about(3, 4), 2);
        hall.move(1, 3);
        hall.vote(7);
        DUE.is("claim 1 again", hall.about(3, 4), 1);
        RollHall first = Due.hall();
        first.meeting(0, RollHall.NONE, 7, 5);
        first.seat(4, 0, 0, 1);
        Due.whole(first, 0);
        DUE.is("number 0 tells seat 0", first.move(1, 0), 1);
        first.vote(2);
        DUE.is("seat 0, claim 1", first.about(0, 4), 1);
        DUE.is("number 30 tells seat 0", first.move(1, 30), 1);
        first.vote(3);
        DUE.is("seat 0, claim 2", first.about(0, 4), 2);
    }

    private static void appealsUndoTheLatest() {
        RollHall hall = begun();
        Due.rule(hall, "appeal rank 0 need 0 of 1");
        carry(hall, 0, 0);
        carry(hall, 3, 5);
        carry(hall, 3, 6);
        carry(hall, 1, 33);
        carry(hall, 1, 3);
        DUE.is("rulings", hall.count(8), 5);
        carry(hall, 2, 0);
        DUE.is("seated as before", hall.about(3, 4), 2);
        carry(hall, 2, 0);
        DUE.is("not seated", hall.about(3, 4), 0);
        carry(hall, 2, 0);
        DUE.is("nominee 5", hall.count(6), 5);
        carry(hall, 2, 0);
        DUE.is("no nominee", hall.count(6), RollHall.NONE);
        DUE.is("still taken", hall.taken(0), 1);
        DUE.is("one ruling", hall.count(8), 1);
        carry(hall, 3, 2);
        carry(hall, 2, 0);
        carry(hall, 2, 0);
        DUE.is("not taken", hall.taken(0), 0);
        DUE.is("no ruling", hall.count(8), 0);
    }

    private static void carry(RollHall hall, int key, int number) {
        DUE.is("move " + key + " " + number, hall.move(key, number), 1);
        // The three WHOLE SEATS are more than half, whether the RIVAL one VOTES or not.
        DUE.is("vote on " + key + " " + number, hall.vote(7), 1);
    }

    private static void appealsOfNothing() {
        RollHall hall = begun();
        carry(hall, 2, 0);
        DUE.is("no ruling", hall.count(8), 0);
        carry(hall, 0, 0);
        hall.move(2, 0);
        DUE.is("an appeal that fails", hall.vote(0), 0);
        DUE.is("still taken", hall.taken(0), 1);
    }

    private static void closeEndsAll() {
        RollHall hall = begun();
        Due.rule(hall, "close rank 5 need 1 of 2");
        hall.move(0, 0);
        hall.move(4, 0);
        DUE.is("not closed", hall.vote(0), 0);
        DUE.is("on", hall.count(5), 0);
        hall.move(4, 0);
        DUE.is("closed", hall.vote(7), 1);
        DUE.is("over", hall.count(5), 1);
        DUE.is("all others fall", hall.count(3), 0);
        DUE.is("no ruling", hall.count(8), 0);
        DUE.is("vote", hall.vote(0), RollHall.STATE);
        DUE.is("move", hall.move(0, 0), RollHall.STATE);
        DUE.is("move of none", hall.move(0, 1), RollHall.NONE);
        DUE.is("ballot", hall.ballot(), RollHall.STATE);
        DUE.is("motion", hall.motion(0, 0), RollHall.NONE);
        DUE.is("ballots", hall.count(4), 0);
    }

    private static void fortyRulingsAreKept() {
        RollHall hall = begun();
        carry(hall, 3, 7);
        carry(hall, 3, 6);
        for (int i = 0; i < 39; i++) {
            carry(hall, 3, i % 3);
        }
        DUE.is("forty", hall.count(8), 40);
        carry(hall, 0, 0);
        DUE.is("still forty", hall.count(8), 40);
        for (int i = 0; i < 39; i++) {
            carry(hall, 2, 0);
        }
        DUE.is("one is left", hall.count(8), 1);
        DUE.is("nominee", hall.count(6), 0);
        carry(hall, 2, 0);
        DUE.is("as ahead of the oldest kept", hall.count(6), 6);
        carry(hall, 2, 0);
        DUE.is("the older ones stand", hall.count(6), 6);
        DUE.is("not taken", hall.taken(0), 0);
    }

    private static void keptRulingsStayWhole() {
        RollHall hall = begun();
        hall.plank();
        int[][] moves = {{3, 4}, {0, 0}, {0, 1}, {1, 33}, {3, 2}, {0, 1}, {1, 3}};
        int[][] before = new int[43][];
        for (int i = 0; i < before.length; i++) {
            before[i] = changeable(hall);
            carry(hall, moves[i % 7][0], moves[i % 7][1]);
        }
        for (int i = before.length - 1; i >= before.length - 40; i--) {
            carry(hall, 2, 0);
            int[] now = changeable(hall);
            for (int k = 0; k < now.length; k++) {
                DUE.is("thing " + k + " as ahead of ruling " + i, now[k], before[i][k]);
            }
        }
        DUE.is("none is left", hall.count(8), 0);
    }

    private static int[] changeable(RollHall hall) {
        return new int[] {hall.count(6), hall.taken(0), hall.taken(1), hall.about(3, 4)};
    }
}
