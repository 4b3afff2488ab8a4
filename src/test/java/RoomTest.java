import java.lang.management.ManagementFactory;

/** All calls of a run share one room: an object and its 512 calls stay far inside it. */
public final class RoomTest {
    private static final Due DUE = new Due();
    // 600,000 objects are the room, and none is smaller than 16 bytes.
    private static final long ROOM = 600_000L * 16;
    private static final int CALLS = 33;

    public static void main(String[] args) {
        com.sun.management.ThreadMXBean room = (com.sun.management.ThreadMXBean) ManagementFactory.getThreadMXBean();
        long self = Thread.currentThread().getId();
        for (int which = 0; which < CALLS; which++) {
            long before = room.getThreadAllocatedBytes(self);
            long sum = oftenAsked(which);
            long made = room.getThreadAllocatedBytes(self) - before;
            DUE.is("call " + which + " made " + made + " bytes, answers " + sum + ", room is left", made < ROOM ? 1 : 0, 1);
        }
        DUE.end();
    }

    /** A hall with all SEATS, and one call again and again up to the 512th. */
    private static long oftenAsked(int which) {
        RollHall hall = Due.hall();
        hall.plank();
        for (int s = 0; s < 30; s++) {
            Due.seat(hall, s % 4, s % 8, 0, s % 5, s % 3 + 5);
        }
        Due.rule(hall, "name rank 1 need 9 of 9 if ballots>3 and depth<2");
        long sum = 0;
        for (int i = 0; i < 400; i++) {
            sum += which < 17 ? callEarly(hall, which) : callLate(hall, which);
        }
        return sum;
    }

    private static long callEarly(RollHall hall, int which) {
        switch (which) {
            case 0: return hall.meeting(0, -1, 7, 5);
            case 1: return hall.law(0, 7);
            case 2: return hall.good(0);
            case 3: return hall.seat(0, 0, 0, 0);
            case 4: return hall.out(0, 0);
            case 5: return hall.like(0, 3);
            case 6: return hall.unlike(0);
            case 7: return hall.credential(0);
            case 8: return hall.about(0, 6);
            case 9: return hall.feed(0, 1);
            case 10: return hall.rule();
            case 11: return hall.force(0);
            case 12: return hall.move(0, 0);
            case 13: return hall.vote(-1 >>> 2);
            case 14: return hall.motion(0, 0);
            case 15: return hall.bind(0, -1);
            default: return hall.release(0, 0);
        }
    }

    private static long callLate(RollHall hall, int which) {
        switch (which) {
            case 17: return hall.ballot();
            case 18: return hall.had(0);
            case 19: return hall.foresee();
            case 20: return hall.needs();
            case 21: return hall.turned();
            case 22: return hall.group(0, 1);
            case 23: return hall.offer(1);
            case 24: return hall.gets(0, 0, 1);
            case 25: return hall.bargain(0, 1);
            case 26: return hall.breaks(0);
            case 27: return hall.plank();
            case 28: return hall.amend(0, 0, 1);
            case 29: return hall.strike(0, 0, 1);
            case 30: return hall.platform(0);
            case 31: return hall.taken(0);
            default: return hall.count(7);
        }
    }
}
