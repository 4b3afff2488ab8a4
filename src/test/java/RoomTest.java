import java.lang.management.ManagementFactory;

/** All calls of a run share one room: no call makes an object. */
public final class RoomTest {
    private static final Due DUE = new Due();

    public static void main(String[] args) {
        RollHall hall = Due.hall();
        hall.plank();
        for (int s = 0; s < 30; s++) {
            Due.seat(hall, s % 4, s % 8, 0, s % 5, s % 3 + 5);
        }
        Due.feed(hall, "name rank 1 need 1 of 2 if ballots>3 and depth<2");
        com.sun.management.ThreadMXBean room = (com.sun.management.ThreadMXBean) ManagementFactory.getThreadMXBean();
        callAll(hall);
        long self = Thread.currentThread().getId();
        room.getThreadAllocatedBytes(self);
        long before = room.getThreadAllocatedBytes(self);
        long sum = 0;
        for (int i = 0; i < 512; i++) {
            sum += callAll(hall);
        }
        long made = room.getThreadAllocatedBytes(self) - before;
        // What the measuring itself makes stays far below one small object a round.
        DUE.is("bytes made in 512 rounds, answers " + sum + ": few", made < 512 * 16 ? 1 : 0, 1);
        DUE.end();
    }

    private static long callAll(RollHall hall) {
        long sum = hall.meeting(0, -1, 7, 5) + hall.law(0, 7) + hall.good(0) + hall.seat(0, 0, 0, 0) + hall.out(0, 0);
        sum += hall.unlike(0) + hall.like(0, 3) + hall.credential(0) + hall.about(0, 6) + hall.feed(0, 1) + hall.rule();
        sum += hall.force(0) + hall.move(0, 0) + hall.motion(0, 0) + hall.vote(-1 >>> 2) + hall.bind(0, -1);
        sum += hall.release(0, 0) + hall.ballot() + hall.had(0) + hall.foresee() + hall.needs() + hall.turned();
        sum += hall.group(0, 1) + hall.offer(1) + hall.gets(0, 0, 1) + hall.bargain(0, 1) + hall.breaks(0) + hall.plank();
        sum += hall.amend(0, 0, 1) + hall.strike(0, 0, 1) + hall.platform(0) + hall.taken(0) + hall.count(7);
        return sum;
    }
}
