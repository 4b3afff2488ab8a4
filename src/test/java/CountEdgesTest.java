/** The edges of promises 1 and 34: what is there at first, and each count at its ends. */
public final class CountEdgesTest {
    private static final int NONE = RollHall.NONE;
    private static final int LEAST = Integer.MIN_VALUE, GREATEST = Integer.MAX_VALUE;

    public static void main(String[] args) throws ReflectiveOperationException {
        Edges.run(CountEdgesTest.class);
    }

    private static void some(RollHall hall) {
        hall.meeting(0, NONE, 7, 5);
        hall.seat(0, 0, 0, 0);
        hall.plank();
        hall.offer(3);
        hall.feed(0, 3);
    }

    // "Nothing is there"
    private static void nothingIsThereAtFirst() {
        RollHall hall = new RollHall();
        for (int what = 0; what < 13; what++) {
            Edges.due("count " + what, hall.count(what), what == 6 ? NONE : 0);
        }
        for (int i = 0; i < 8; i++) {
            Edges.due("had " + i, hall.had(i), 0);
            Edges.due("released " + i, hall.release(i, 0), 0);
            Edges.due("told " + i, hall.bind(i, -1), NONE);
        }
        for (int g = 0; g < 6; g++) {
            Edges.due("votes of " + g, hall.group(g, 0), 0);
        }
        for (int key = 0; key < 5; key++) {
            Edges.due("force " + key, hall.force(key), NONE);
        }
        Edges.due("days", hall.law(0, 7), 7);
        Edges.due("quorum", hall.law(1, 5), 5);
    }

    // "THE SESSION is on"
    private static void theSessionIsOnAtFirst() {
        RollHall hall = new RollHall();
        Edges.due("not over", hall.count(5), 0);
        Edges.due("a motion", hall.move(4, 0), 1);
        Edges.due("a ballot", hall.ballot(), NONE);
        Edges.due("was held", hall.count(4), 1);
    }

    private static void eachObjectIsItsOwn() {
        RollHall one = new RollHall();
        RollHall other = new RollHall();
        some(one);
        one.law(0, 50);
        one.like(0, 3);
        one.ballot();
        one.bind(0, 5);
        one.release(5, 1);
        one.group(0, 9);
        one.move(4, 0);
        one.vote(1);
        for (int what = 0; what < 13; what++) {
            Edges.due("count " + what, other.count(what), what == 6 ? NONE : 0);
        }
        Edges.due("days", other.law(0, 7), 7);
        Edges.due("had", other.had(3), 0);
        Edges.due("told", other.bind(0, -1), NONE);
        Edges.due("released", other.release(5, 0), 0);
        Edges.due("votes", other.group(0, 0), 0);
    }

    // count: what 0 .. 12; "NONE"
    private static void thereAreThirteenCounts() {
        for (int what : new int[] {-1, 13, LEAST, GREATEST}) {
            Edges.refused("what " + what, CountEdgesTest::some, h -> h.count(what), NONE);
        }
        RollHall hall = new RollHall();
        some(hall);
        int[] want = {1, 1, 0, 0, 0, 0, NONE, 2, 0, 1, 1, 0, 3};
        for (int what = 0; what < 13; what++) {
            Edges.due("what " + what, hall.count(what), want[what]);
        }
    }

    private static void meetingsAndSeatsAtTheirMost() {
        RollHall hall = new RollHall();
        for (int i = 0; i < 31; i++) {
            hall.meeting(0, NONE, 7, 5);
            Edges.due("meetings " + i, hall.count(0), Math.min(i + 1, 24));
            hall.seat(0, 0, 0, 0);
            Edges.due("seats " + i, hall.count(1), Math.min(i + 1, 30));
            Edges.due("halves " + i, hall.count(7), 2 * Math.min(i + 1, 30));
        }
    }

    private static void rulesAndTheTapeAtTheirMost() {
        RollHall hall = new RollHall();
        for (int i = 0; i < 11; i++) {
            Due.rule(hall, "name rank 1 need 1 of 2");
            Edges.due("rules " + i, hall.count(2), Math.min(i + 1, 10));
        }
        Edges.due("what the 11th left", hall.count(12), 23);
        for (int i = 0; i < 13; i++) {
            hall.feed(0, 8);
        }
        Edges.due("12 times 8 more", hall.count(12), 119);
        hall.feed(0, 1);
        hall.feed(0, 1);
        Edges.due("all", hall.count(12), 120);
    }

    private static void ballotsAreCounted() {
        RollHall hall = new RollHall();
        for (int i = 0; i < 200; i++) {
            Edges.due("ballots", hall.count(4), i);
            hall.ballot();
        }
    }

    private static void planksAndOffersAtTheirMost() {
        RollHall hall = new RollHall();
        for (int i = 0; i < 14; i++) {
            hall.plank();
            Edges.due("planks " + i, hall.count(9), Math.min(i + 1, 8));
            hall.offer(1);
            Edges.due("offers " + i, hall.count(10), Math.min(i + 1, 12));
        }
    }

    // "7 halves that VOTE"
    private static void onlyHalvesThatVoteCount() {
        RollHall hall = new RollHall();
        hall.meeting(0, NONE, 7, 5);
        hall.meeting(0, NONE, 7, 5);
        int[] x = {0, 0, 0, 0, 1, 1};
        int[] want = {2, 3, 5, 7, 7, 7};
        for (int kind = 0; kind < 6; kind++) {
            hall.seat(kind, 0, 0, x[kind]);
            Edges.due("with kind " + kind, hall.count(7), want[kind]);
        }
        hall.out(1, 1);
        Edges.due("a half's alternate", hall.count(7), 7);
        hall.out(5, 1);
        Edges.due("out, too", hall.count(7), 6);
    }

    private static void countsLeaveAllAsItWas() {
        Edges.noTrace("count", CountEdgesTest::some, h -> {
            for (int what = -1; what <= 13; what++) {
                h.count(what);
            }
        });
    }

    /** What a call answers does not hang on how often it was asked, up to the last of 512 calls. */
    private static void theLastCallIsAsTheFirst() {
        RollHall hall = new RollHall();
        some(hall);
        for (int i = 6; i < 512; i++) {
            hall.good(0);
        }
        Edges.due("the 512th call", hall.count(0), 1);
    }
}
