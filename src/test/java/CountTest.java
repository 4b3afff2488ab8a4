/** Promises 1 and 34: a new object, count; and that refusals and looks change nothing. */
public final class CountTest {
    private static final Due DUE = new Due();

    public static void main(String[] args) {
        refusalsAreNumbers();
        nothingIsThere();
        countTellsAll();
        countRefuses();
        objectsAreApart();
        DUE.end();
    }

    private static void refusalsAreNumbers() {
        DUE.is("NONE", RollHall.NONE, -1);
        DUE.is("BAD", RollHall.BAD, -2);
        DUE.is("STATE", RollHall.STATE, -3);
        DUE.is("FULL", RollHall.FULL, -4);
    }

    private static void nothingIsThere() {
        RollHall hall = new RollHall();
        for (int what = 0; what <= 12; what++) {
            DUE.is("count " + what, hall.count(what), what == 6 ? RollHall.NONE : 0);
        }
        DUE.is("good", hall.good(0), RollHall.NONE);
        DUE.is("about", hall.about(0, 0), RollHall.NONE);
        DUE.is("force", hall.force(0), RollHall.NONE);
        DUE.is("motion", hall.motion(0, 0), RollHall.NONE);
        DUE.is("taken", hall.taken(0), RollHall.NONE);
        DUE.is("platform", hall.platform(0), RollHall.NONE);
        DUE.is("bargain", hall.bargain(0, 0), RollHall.NONE);
        DUE.is("days", hall.law(0, 7), 7);
        DUE.is("quorum", hall.law(1, 5), 5);
        DUE.is("the session is on", hall.move(4, 0), 1);
    }

    private static void countTellsAll() {
        RollHall hall = Due.hall();
        hall.meeting(0, 0, 0, 0);
        Due.whole(hall, 0);
        hall.seat(1, 0, 0, 0);
        hall.seat(4, 0, 0, 1);
        Due.rule(hall, "close rank 1 need 1 of 2");
        Due.rule(hall, "name rank 0 need 1 of 2");
        for (int p = 0; p < 4; p++) {
            hall.plank();
            hall.amend(p, 0, p);
            hall.amend(p, 0, p);
        }
        hall.move(0, 2);
        hall.vote(3);
        hall.move(3, 6);
        hall.vote(3);
        hall.ballot();
        hall.ballot();
        hall.ballot();
        hall.ballot();
        hall.ballot();
        hall.offer(1);
        hall.move(0, 0);
        hall.feed(0, 7);
        int[] want = {2, 3, 2, 1, 5, 0, 6, 3, 2, 4, 1, 2, 7};
        for (int what = 0; what < want.length; what++) {
            DUE.is("count " + what, hall.count(what), want[what]);
        }
        hall.move(4, 0);
        DUE.is("two open", hall.count(3), 2);
        hall.vote(3);
        DUE.is("over", hall.count(5), 1);
        DUE.is("none open", hall.count(3), 0);
    }

    private static void countRefuses() {
        RollHall hall = new RollHall();
        DUE.is("what -1", hall.count(-1), RollHall.NONE);
        DUE.is("what 13", hall.count(13), RollHall.NONE);
        DUE.is("greatest", hall.count(Integer.MAX_VALUE), RollHall.NONE);
        DUE.is("least", hall.count(Integer.MIN_VALUE), RollHall.NONE);
    }

    private static void objectsAreApart() {
        RollHall one = Due.hall();
        RollHall other = new RollHall();
        Due.whole(one, 0, 1);
        one.bind(0, 3);
        one.release(3, 1);
        DUE.is("no seat there", other.count(1), 0);
        DUE.is("not told there", other.bind(0, 0), RollHall.NONE);
        DUE.is("not released there", other.release(3, 0), 0);
    }
}
