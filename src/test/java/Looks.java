import java.util.ArrayList;
import java.util.List;

/** All that can be seen of a hall, in one row of answers; the hall is used up by it. */
final class Looks {
    private final RollHall hall;
    private final List<Integer> row = new ArrayList<>();

    private Looks(RollHall hall) {
        this.hall = hall;
    }

    static int[] at(RollHall hall) {
        Looks looks = new Looks(hall);
        int[] counts = looks.counts();
        looks.meetingsAndSeats(counts[0], counts[1]);
        looks.session(counts[3]);
        looks.ballots();
        looks.bargains(counts[10]);
        looks.laws();
        looks.tape();
        looks.planks(counts[9], counts[1]);
        return looks.row.stream().mapToInt(Integer::intValue).toArray();
    }

    private void see(int answer) {
        row.add(answer);
    }

    private int[] counts() {
        int[] counts = new int[13];
        for (int what = 0; what < 13; what++) {
            counts[what] = hall.count(what);
            see(counts[what]);
        }
        return counts;
    }

    private void meetingsAndSeats(int meetings, int seats) {
        for (int m = 0; m < meetings; m++) {
            see(hall.good(m));
        }
        for (int s = 0; s < seats; s++) {
            see(hall.credential(s));
            for (int what = 0; what < 8; what++) {
                see(hall.about(s, what));
            }
        }
    }

    private void session(int open) {
        for (int key = 0; key < 5; key++) {
            see(hall.force(key));
        }
        for (int i = 0; i < open; i++) {
            for (int what = 0; what < 5; what++) {
                see(hall.motion(i, what));
            }
        }
    }

    private void ballots() {
        for (int name = 0; name < 8; name++) {
            see(hall.had(name));
        }
        see(hall.foresee());
        see(hall.needs());
        see(hall.turned());
        see(hall.ballot());
        for (int name = 0; name < 8; name++) {
            see(hall.had(name));
            see(hall.release(name, 0));
            see(hall.bind(name, -1));
        }
        see(hall.ballot());
        see(hall.foresee());
    }

    private void bargains(int offers) {
        for (int offer = 0; offer < offers; offer++) {
            see(hall.bargain(offer, 0));
            see(hall.bargain(offer, 1));
            see(hall.breaks(offer));
        }
        for (int g = 0; g < 6; g++) {
            see(hall.group(g, 0));
            for (int offer = 0; offer < offers; offer++) {
                see(hall.gets(offer, g, 0));
            }
        }
    }

    private void laws() {
        see(hall.law(0, 0));
        see(hall.law(1, 0));
    }

    /** The bytes show in what they are read as. */
    private void tape() {
        see(hall.rule());
        see(hall.count(2));
        see(hall.count(12));
    }

    /** The WORDS of PLANKS that are not TAKEN show when they are. */
    private void planks(int planks, int seats) {
        int all = (1 << seats) - 1;
        for (int i = hall.count(3); i > 0; i--) {
            see(hall.vote(all));
        }
        for (int p = 0; p < planks; p++) {
            see(hall.taken(p));
            if (hall.taken(p) == 0) {
                see(hall.move(0, p));
                see(hall.vote(all));
            }
        }
        int words = hall.count(11);
        for (int i = 0; i <= words; i++) {
            see(hall.platform(i));
        }
        see(hall.count(6));
        see(hall.count(8));
    }
}
