/** Promises 5 to 10: seat, out, like, unlike, credential, about. */
public final class SeatsTest {
    private static final Due DUE = new Due();

    public static void main(String[] args) {
        seatRefuses();
        boundSeatsTellBallotsAndName();
        alternatesAreOfOthers();
        seatsFillUp();
        outTellsWhatItWas();
        likesStandInARow();
        credentials();
        aboutTellsAll();
        halvesByKind();
        rivalsVoteWhenSeated();
        alternatesVoteWhenTheirSeatIsOut();
        DUE.end();
    }

    private static void seatRefuses() {
        RollHall hall = Due.hall();
        DUE.is("state -1", hall.seat(0, -1, 0, 0), RollHall.NONE);
        DUE.is("state 8", hall.seat(0, 8, 0, 0), RollHall.NONE);
        DUE.is("meeting -1", hall.seat(0, 0, -1, 0), RollHall.NONE);
        DUE.is("meeting 1", hall.seat(0, 0, 1, 0), RollHall.NONE);
        DUE.is("none ahead of a bad kind", hall.seat(9, 0, 1, 0), RollHall.NONE);
        DUE.is("kind -1", hall.seat(-1, 0, 0, 0), RollHall.BAD);
        DUE.is("kind 6", hall.seat(6, 0, 0, 0), RollHall.BAD);
        for (int kind = 0; kind < 3; kind++) {
            DUE.is("x 1 of kind " + kind, hall.seat(kind, 0, 0, 1), RollHall.BAD);
            DUE.is("x -1 of kind " + kind, hall.seat(kind, 0, 0, -1), RollHall.BAD);
        }
        DUE.is("rival, claim -1", hall.seat(4, 0, 0, -1), RollHall.NONE);
        DUE.is("rival, claim 1", hall.seat(4, 0, 0, 1), RollHall.NONE);
        DUE.is("count", hall.count(1), 0);
    }

    private static void boundSeatsTellBallotsAndName() {
        RollHall hall = Due.hall();
        DUE.is("name 8", hall.seat(3, 0, 0, 108), RollHall.NONE);
        DUE.is("name 99", hall.seat(3, 0, 0, 99), RollHall.NONE);
        DUE.is("name 8 ahead of ballots 21", hall.seat(3, 0, 0, 2108), RollHall.NONE);
        DUE.is("ballots 21", hall.seat(3, 0, 0, 2107), RollHall.BAD);
        DUE.is("least and greatest", hall.seat(3, 0, 0, 0), 0);
        DUE.is("20 ballots, name 7", hall.seat(3, 0, 0, 2007), 1);
    }

    private static void alternatesAreOfOthers() {
        RollHall hall = Due.hall();
        DUE.is("of itself", hall.seat(5, 0, 0, 0), RollHall.NONE);
        hall.seat(0, 0, 0, 0);
        DUE.is("of 0", hall.seat(5, 0, 0, 0), 1);
        DUE.is("another of 0", hall.seat(5, 3, 0, 0), 2);
        DUE.is("of an alternate", hall.seat(5, 0, 0, 1), RollHall.BAD);
        DUE.is("of -1", hall.seat(5, 0, 0, -1), RollHall.NONE);
        DUE.is("of 3", hall.seat(5, 0, 0, 3), RollHall.NONE);
    }

    private static void seatsFillUp() {
        RollHall hall = Due.hall();
        for (int i = 0; i < 30; i++) {
            DUE.is("seat " + i, hall.seat(i % 3, i % 8, 0, 0), i);
        }
        DUE.is("none ahead of full", hall.seat(0, 8, 0, 0), RollHall.NONE);
        DUE.is("bad ahead of full", hall.seat(0, 0, 0, 1), RollHall.BAD);
        DUE.is("the 31st", hall.seat(0, 0, 0, 0), RollHall.FULL);
        DUE.is("count", hall.count(1), 30);
        DUE.is("halves", hall.count(7), 50);
    }

    private static void outTellsWhatItWas() {
        RollHall hall = Due.hall();
        Due.whole(hall, 0);
        DUE.is("was in", hall.out(0, 1), 0);
        DUE.is("was out", hall.out(0, 1), 1);
        DUE.is("about", hall.about(0, 3), 1);
        DUE.is("halves of one that is out", hall.about(0, 6), 0);
        DUE.is("was out, in now", hall.out(0, 0), 1);
        DUE.is("votes again", hall.about(0, 5), 1);
        DUE.is("is 2", hall.out(0, 2), RollHall.BAD);
        DUE.is("is -1", hall.out(0, -1), RollHall.BAD);
        DUE.is("seat 1, is 2", hall.out(1, 2), RollHall.NONE);
        DUE.is("seat -1", hall.out(-1, 0), RollHall.NONE);
        DUE.is("as it was", hall.about(0, 3), 0);
    }

    private static void likesStandInARow() {
        RollHall hall = Due.hall();
        Due.whole(hall, 0);
        Due.whole(hall, 0, 6);
        for (int name = 7; name >= 0; name--) {
            DUE.is("name " + name, hall.like(0, name), 8 - name);
        }
        DUE.is("there already", hall.like(0, 7), RollHall.BAD);
        DUE.is("name 8", hall.like(0, 8), RollHall.NONE);
        DUE.is("name -1", hall.like(0, -1), RollHall.NONE);
        DUE.is("seat 2", hall.like(2, 0), RollHall.NONE);
        DUE.is("seat -1", hall.like(-1, 0), RollHall.NONE);
        DUE.is("about", hall.about(0, 7), 8);
        DUE.is("unlike", hall.unlike(0), 8);
        DUE.is("unlike again", hall.unlike(0), 0);
        DUE.is("unlike 2", hall.unlike(2), RollHall.NONE);
        DUE.is("unlike -1", hall.unlike(-1), RollHall.NONE);
        DUE.is("like anew", hall.like(0, 7), 1);
        DUE.is("the neighbour's are its own", hall.about(1, 7), 1);
    }

    private static void credentials() {
        RollHall hall = new RollHall();
        hall.meeting(0, -1, 7, 5);
        hall.meeting(0, -1, 6, 5);
        hall.meeting(0, 1, 9, 9);
        hall.seat(4, 0, 0, 1);
        hall.seat(4, 0, 1, 0);
        hall.seat(4, 0, 1, 2);
        hall.seat(0, 0, 0, 0);
        DUE.is("only the first", hall.credential(0), 1);
        DUE.is("only the other", hall.credential(1), 2);
        DUE.is("none", hall.credential(2), 0);
        DUE.is("no rival", hall.credential(3), RollHall.BAD);
        DUE.is("not there", hall.credential(4), RollHall.NONE);
        DUE.is("below", hall.credential(-1), RollHall.NONE);
        hall.law(0, 6);
        DUE.is("both", hall.credential(0), 3);
        DUE.is("both by the chain", hall.credential(2), 3);
    }

    private static void aboutTellsAll() {
        RollHall hall = Due.hall();
        hall.meeting(1, 0, 7, 5);
        hall.seat(3, 5, 1, 304);
        hall.seat(4, 6, 0, 1);
        DUE.is("kind", hall.about(0, 0), 3);
        DUE.is("state", hall.about(0, 1), 5);
        DUE.is("meeting", hall.about(0, 2), 1);
        DUE.is("out", hall.about(0, 3), 0);
        DUE.is("seated, of others", hall.about(0, 4), 1);
        DUE.is("votes", hall.about(0, 5), 1);
        DUE.is("halves", hall.about(0, 6), 2);
        DUE.is("likes", hall.about(0, 7), 0);
        DUE.is("a rival's kind", hall.about(1, 0), 4);
        DUE.is("a rival's meeting", hall.about(1, 2), 0);
        DUE.is("a rival at first", hall.about(1, 4), 0);
        DUE.is("what 8", hall.about(0, 8), RollHall.NONE);
        DUE.is("what -1", hall.about(0, -1), RollHall.NONE);
        DUE.is("seat 2", hall.about(2, 0), RollHall.NONE);
        DUE.is("seat -1", hall.about(-1, 0), RollHall.NONE);
    }

    private static void halvesByKind() {
        RollHall hall = Due.hall();
        hall.meeting(0, RollHall.NONE, 7, 5);
        int[] halves = {2, 1, 2, 2, 0, 0};
        for (int kind = 0; kind < 6; kind++) {
            hall.seat(kind, 0, 0, kind == 4 ? 1 : 0);
            DUE.is("halves of kind " + kind, hall.about(kind, 6), halves[kind]);
            DUE.is("votes, kind " + kind, hall.about(kind, 5), halves[kind] > 0 ? 1 : 0);
        }
        DUE.is("all halves", hall.count(7), 7);
    }

    private static void rivalsVoteWhenSeated() {
        RollHall hall = Due.hall();
        hall.meeting(0, -1, 0, 0);
        Due.whole(hall, 0);
        hall.seat(4, 0, 0, 1);
        hall.seat(5, 0, 0, 1);
        hall.out(1, 1);
        DUE.is("alternate of one that would not vote", hall.about(2, 6), 0);
        hall.move(1, 1);
        hall.vote(1);
        DUE.is("seated", hall.about(1, 4), 1);
        DUE.is("out", hall.about(1, 6), 0);
        DUE.is("alternate now", hall.about(2, 6), 2);
        hall.out(1, 0);
        DUE.is("votes", hall.about(1, 6), 2);
        DUE.is("alternate no more", hall.about(2, 6), 0);
    }

    private static void alternatesVoteWhenTheirSeatIsOut() {
        RollHall hall = Due.hall();
        hall.seat(1, 0, 0, 0);
        hall.seat(5, 2, 0, 0);
        DUE.is("its seat is in", hall.about(1, 5), 0);
        DUE.is("seated", hall.about(1, 4), 1);
        hall.out(0, 1);
        DUE.is("a half's alternate", hall.about(1, 6), 1);
        DUE.is("all halves", hall.count(7), 1);
        hall.out(1, 1);
        DUE.is("out itself", hall.about(1, 6), 0);
    }
}
