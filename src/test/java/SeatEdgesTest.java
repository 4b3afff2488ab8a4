/** The edges of SEATS: part 1 of the document's terms, and promises 5 to 10. */
public final class SeatEdgesTest {
    private static final int NONE = RollHall.NONE, BAD = RollHall.BAD, FULL = RollHall.FULL;
    private static final int LEAST = Integer.MIN_VALUE, GREATEST = Integer.MAX_VALUE;
    private static final int WHOLE = 0, HALF = 1, UNIT = 2, BOUND = 3, RIVAL = 4, ALTERNATE = 5;

    public static void main(String[] args) throws ReflectiveOperationException {
        Edges.run(SeatEdgesTest.class);
    }

    /** Three MEETINGS: 0 and 2 are GOOD, 1 is not. */
    private static void meetings(RollHall hall) {
        hall.meeting(0, NONE, 7, 5);
        hall.meeting(1, NONE, 6, 5);
        hall.meeting(2, 0, 7, 5);
    }

    /** One SEAT of each KIND, numbered as the KINDS are; the ALTERNATE is of SEAT 0. */
    private static void kinds(RollHall hall) {
        meetings(hall);
        hall.seat(WHOLE, 0, 0, 0);
        hall.seat(HALF, 1, 0, 0);
        hall.seat(UNIT, 2, 0, 0);
        hall.seat(BOUND, 3, 0, 204);
        hall.seat(RIVAL, 4, 0, 1);
        hall.seat(ALTERNATE, 5, 0, 0);
    }

    private static void fill(RollHall hall) {
        meetings(hall);
        for (int s = 0; s < 30; s++) {
            hall.seat(WHOLE, s % 8, 0, 0);
        }
    }

    private static RollHall withKinds() {
        RollHall hall = new RollHall();
        kinds(hall);
        return hall;
    }

    /** SEATS a RIVAL by a MOTION that all others carry. */
    private static void seatFor(RollHall hall, int number) {
        hall.move(1, number);
        hall.vote((1 << hall.count(1)) - 1);
    }

    // "SEATS are numbered from 0 on"
    private static void seatsAreNumberedFromZeroOn() {
        RollHall hall = new RollHall();
        meetings(hall);
        Edges.due("the first", hall.seat(HALF, 7, 2, 0), 0);
        Edges.due("the second", hall.seat(WHOLE, 7, 2, 0), 1);
        Edges.due("the third", hall.seat(ALTERNATE, 7, 2, 1), 2);
    }

    // "30 at most"
    private static void thirtySeatsAtMost() {
        RollHall hall = new RollHall();
        meetings(hall);
        for (int s = 0; s < 30; s++) {
            Edges.due("seat " + s, hall.seat(WHOLE, 0, 0, 0), s);
        }
        Edges.due("how many", hall.count(1), 30);
        int[] x = {0, 0, 0, 2007, 1, 29};
        for (int kind = WHOLE; kind <= ALTERNATE; kind++) {
            int k = kind;
            Edges.refused("the 31st, of kind " + kind, SeatEdgesTest::fill, h -> h.seat(k, 0, 0, x[k]), FULL);
        }
    }

    // "each of a KIND": 0 .. 5
    private static void kindsAreZeroToFive() {
        int[] x = {0, 0, 0, 0, 1, 0};
        RollHall hall = new RollHall();
        meetings(hall);
        for (int kind = WHOLE; kind <= ALTERNATE; kind++) {
            Edges.due("kind " + kind, hall.seat(kind, 0, 0, x[kind]), kind);
            Edges.due("about kind " + kind, hall.about(kind, 0), kind);
        }
        for (int kind : new int[] {-1, 6, LEAST, GREATEST}) {
            Edges.refused("kind " + kind, SeatEdgesTest::kinds, h -> h.seat(kind, 0, 0, 0), BAD);
        }
    }

    // "of a STATE" (0 .. 7)
    private static void statesOfSeatsAreZeroToSeven() {
        RollHall hall = new RollHall();
        meetings(hall);
        for (int state = 0; state < 8; state++) {
            hall.seat(WHOLE, state, 0, 0);
            Edges.due("state " + state, hall.about(state, 1), state);
        }
        for (int state : new int[] {-1, 8, LEAST, GREATEST}) {
            Edges.refused("state " + state, SeatEdgesTest::kinds, h -> h.seat(WHOLE, state, 0, 0), NONE);
        }
    }

    // "with the MEETING behind it"
    private static void theMeetingBehindIsThere() {
        RollHall hall = new RollHall();
        meetings(hall);
        Edges.due("the first meeting", hall.seat(WHOLE, 0, 0, 0), 0);
        Edges.due("the last meeting, of another state", hall.seat(WHOLE, 0, 2, 0), 1);
        Edges.due("one that is not good", hall.seat(WHOLE, 0, 1, 0), 2);
        Edges.due("it votes all the same", hall.about(2, 5), 1);
        for (int meeting : new int[] {-1, 3, LEAST, GREATEST}) {
            Edges.refused("meeting " + meeting, SeatEdgesTest::kinds, h -> h.seat(WHOLE, 0, meeting, 0), NONE);
        }
        Edges.refused("no meeting at all", h -> { }, h -> h.seat(WHOLE, 0, 0, 0), NONE);
    }

    // "else 0": x of WHOLE, HALF and UNIT ones
    private static void otherSeatsHaveNoX() {
        for (int kind = WHOLE; kind <= UNIT; kind++) {
            int k = kind;
            for (int x : new int[] {1, -1, 100, LEAST, GREATEST}) {
                Edges.refused("x " + x + " of kind " + kind, SeatEdgesTest::kinds, h -> h.seat(k, 0, 0, x), BAD);
            }
        }
    }

    // "3 BOUND: 2, to a NAME", NAMES 0 .. 7
    private static void boundSeatsAreToNamesThatAreThere() {
        RollHall hall = new RollHall();
        meetings(hall);
        for (int name = 0; name < 8; name++) {
            Edges.due("name " + name, hall.seat(BOUND, 0, 0, 100 + name), name);
        }
        for (int x : new int[] {8, 9, 10, 99, 108, 199, 2008, 2099}) {
            Edges.refused("x " + x, SeatEdgesTest::kinds, h -> h.seat(BOUND, 0, 0, x), NONE);
        }
    }

    // "for so many BALLOTS (0 .. 20)"
    private static void boundSeatsAreForTwentyBallotsAtMost() {
        RollHall hall = new RollHall();
        meetings(hall);
        Edges.due("0 ballots", hall.seat(BOUND, 0, 0, 7), 0);
        Edges.due("20 ballots, name 0", hall.seat(BOUND, 0, 0, 2000), 1);
        Edges.due("20 ballots, name 7", hall.seat(BOUND, 0, 0, 2007), 2);
        for (int x : new int[] {2100, 2107, 9900, 10000}) {
            Edges.refused("x " + x, SeatEdgesTest::kinds, h -> h.seat(BOUND, 0, 0, x), BAD);
        }
        Edges.refused("name 8 ahead of 21 ballots", SeatEdgesTest::kinds, h -> h.seat(BOUND, 0, 0, 2108), NONE);
    }

    /** How a number below 0 is taken apart the document leaves open: one of both refusals is due. */
    private static void boundSeatsHaveNoXBelowZero() {
        for (int x : new int[] {-1, -92, -99, -100, -101, LEAST}) {
            RollHall hall = withKinds();
            int answer = hall.seat(BOUND, 0, 0, x);
            Edges.due("x " + x + " is refused", answer == NONE || answer == BAD ? 1 : 0, 1);
            Edges.due("none came", hall.count(1), 6);
        }
    }

    // "4 RIVAL: two claim it, by the MEETING and by another one"
    private static void bothClaimsOfARivalAreThere() {
        RollHall hall = new RollHall();
        meetings(hall);
        Edges.due("the first meeting", hall.seat(RIVAL, 0, 2, 0), 0);
        Edges.due("the last meeting", hall.seat(RIVAL, 0, 0, 2), 1);
        for (int x : new int[] {-1, 3, LEAST, GREATEST}) {
            Edges.refused("claim " + x, SeatEdgesTest::kinds, h -> h.seat(RIVAL, 0, 0, x), NONE);
        }
    }

    // "5 ALTERNATE of a SEAT with a lesser number"
    private static void alternatesAreOfLesserSeats() {
        RollHall hall = withKinds();
        for (int of = WHOLE; of <= RIVAL; of++) {
            Edges.due("of seat " + of, hall.seat(ALTERNATE, 0, 0, of), 6 + of);
        }
        for (int x : new int[] {-1, 6, 7, LEAST, GREATEST}) {
            Edges.refused("of seat " + x, SeatEdgesTest::kinds, h -> h.seat(ALTERNATE, 0, 0, x), NONE);
        }
        Edges.refused("of itself, the first", SeatEdgesTest::meetings, h -> h.seat(ALTERNATE, 0, 0, 0), NONE);
    }

    // "no ALTERNATE"
    private static void alternatesAreOfNoAlternate() {
        Edges.refused("of an alternate", SeatEdgesTest::kinds, h -> h.seat(ALTERNATE, 0, 0, 5), BAD);
    }

    private static void aSeatHasSeveralAlternates() {
        RollHall hall = withKinds();
        Edges.due("another of seat 0", hall.seat(ALTERNATE, 1, 0, 0), 6);
        hall.out(0, 1);
        Edges.due("the one", hall.about(5, 6), 2);
        Edges.due("and the other", hall.about(6, 6), 2);
    }

    // seat: "NONE: state, meeting, of x; BAD: kind, x; FULL", of several the first one told
    private static void ofASeatNoneIsToldAheadOfBad() {
        Edges.refused("state 8, kind 6", SeatEdgesTest::kinds, h -> h.seat(6, 8, 0, 0), NONE);
        Edges.refused("meeting 3, kind -1", SeatEdgesTest::kinds, h -> h.seat(-1, 0, 3, 0), NONE);
        Edges.refused("state -1, x 1", SeatEdgesTest::kinds, h -> h.seat(WHOLE, -1, 0, 1), NONE);
        Edges.refused("meeting -1, x 1", SeatEdgesTest::kinds, h -> h.seat(UNIT, 0, -1, 1), NONE);
        Edges.refused("state 8, 21 ballots", SeatEdgesTest::kinds, h -> h.seat(BOUND, 8, 0, 2100), NONE);
        Edges.refused("meeting 3, of an alternate", SeatEdgesTest::kinds, h -> h.seat(ALTERNATE, 0, 3, 5), NONE);
    }

    private static void ofASeatNoneIsToldAheadOfFull() {
        Edges.refused("state 8", SeatEdgesTest::fill, h -> h.seat(WHOLE, 8, 0, 0), NONE);
        Edges.refused("meeting 3", SeatEdgesTest::fill, h -> h.seat(WHOLE, 0, 3, 0), NONE);
        Edges.refused("name 8", SeatEdgesTest::fill, h -> h.seat(BOUND, 0, 0, 8), NONE);
        Edges.refused("claim 3", SeatEdgesTest::fill, h -> h.seat(RIVAL, 0, 0, 3), NONE);
        Edges.refused("of seat 30", SeatEdgesTest::fill, h -> h.seat(ALTERNATE, 0, 0, 30), NONE);
    }

    private static void ofASeatBadIsToldAheadOfFull() {
        Edges.refused("kind 6", SeatEdgesTest::fill, h -> h.seat(6, 0, 0, 0), BAD);
        Edges.refused("kind -1", SeatEdgesTest::fill, h -> h.seat(-1, 0, 0, 0), BAD);
        Edges.refused("x 1", SeatEdgesTest::fill, h -> h.seat(HALF, 0, 0, 1), BAD);
        Edges.refused("21 ballots", SeatEdgesTest::fill, h -> h.seat(BOUND, 0, 0, 2100), BAD);
    }

    private static void aRefusedSeatTakesNoNumber() {
        RollHall hall = new RollHall();
        meetings(hall);
        hall.seat(6, 0, 0, 0);
        hall.seat(WHOLE, 8, 0, 0);
        hall.seat(ALTERNATE, 0, 0, 0);
        Edges.due("the first one that is there", hall.seat(WHOLE, 0, 0, 0), 0);
    }

    // "0 WHOLE: 2 halves; 1 HALF: 1; 2 UNIT: 2; 3 BOUND: 2"
    private static void halvesOfTheKinds() {
        RollHall hall = withKinds();
        int[] halves = {2, 1, 2, 2};
        for (int kind = WHOLE; kind <= BOUND; kind++) {
            Edges.due("kind " + kind, hall.about(kind, 6), halves[kind]);
        }
        Edges.due("all", hall.count(7), 7);
    }

    // "4 RIVAL: 2", whichever claim it is SEATED for
    private static void aRivalHasTwoHalves() {
        RollHall hall = withKinds();
        Edges.due("not seated", hall.about(4, 6), 0);
        seatFor(hall, 4);
        Edges.due("for the first claim", hall.about(4, 6), 2);
        seatFor(hall, 34);
        Edges.due("for the other one", hall.about(4, 6), 2);
        Edges.due("all", hall.count(7), 9);
    }

    // "as many as that, if that is OUT"
    private static void anAlternateHasAsManyHalvesAsItsSeat() {
        int[] halves = {2, 1, 2, 2, 0};
        for (int of = WHOLE; of <= RIVAL; of++) {
            RollHall hall = withKinds();
            int s = hall.seat(ALTERNATE, 6, 0, of);
            Edges.due("in: seat " + of, hall.about(s, 6), 0);
            hall.out(of, 1);
            Edges.due("out: seat " + of, hall.about(s, 6), halves[of]);
            Edges.due("votes for seat " + of, hall.about(s, 5), halves[of] > 0 ? 1 : 0);
        }
    }

    // "A SEAT is IN or OUT (IN at first)"
    private static void seatsAreInAtFirst() {
        RollHall hall = withKinds();
        for (int s = 0; s < 6; s++) {
            Edges.due("about seat " + s, hall.about(s, 3), 0);
            Edges.due("out seat " + s, hall.out(s, 1), 0);
            Edges.due("is out " + s, hall.about(s, 3), 1);
        }
    }

    // "A RIVAL SEAT is SEATED for its first claim (1), the other one (2) or none (0, at first)"
    private static void aRivalIsSeatedForNoneAtFirst() {
        RollHall hall = withKinds();
        Edges.due("at first", hall.about(4, 4), 0);
        seatFor(hall, 4);
        Edges.due("its first claim", hall.about(4, 4), 1);
        seatFor(hall, 34);
        Edges.due("the other one", hall.about(4, 4), 2);
    }

    // "CREDENTIAL: 1, 2 if only that claim's MEETING is GOOD; 3 both; 0 none"
    private static void credentialsOfBothClaims() {
        int[][] claims = {{0, 1, 1}, {1, 0, 2}, {0, 2, 3}, {2, 0, 3}, {2, 1, 1}, {1, 2, 2}};
        RollHall hall = new RollHall();
        meetings(hall);
        for (int i = 0; i < claims.length; i++) {
            hall.seat(RIVAL, 0, claims[i][0], claims[i][1]);
            Edges.due(claims[i][0] + " and " + claims[i][1], hall.credential(i), claims[i][2]);
        }
        hall.law(0, 8);
        for (int i = 0; i < claims.length; i++) {
            Edges.due("none is good, " + i, hall.credential(i), 0);
        }
        hall.law(0, 6);
        for (int i = 0; i < claims.length; i++) {
            Edges.due("all are good, " + i, hall.credential(i), 3);
        }
    }

    private static void credentialsAreNotSeats() {
        RollHall hall = withKinds();
        Edges.due("ahead", hall.credential(4), 1);
        seatFor(hall, 34);
        Edges.due("seated for the other claim", hall.credential(4), 1);
        hall.out(4, 1);
        Edges.due("out", hall.credential(4), 1);
    }

    // credential: "NONE; BAD: it is no RIVAL SEAT"
    private static void credentialsAreOfRivalSeats() {
        for (int s : new int[] {WHOLE, HALF, UNIT, BOUND, ALTERNATE}) {
            Edges.refused("seat " + s, SeatEdgesTest::kinds, h -> h.credential(s), BAD);
        }
        for (int s : new int[] {-1, 6, 30, LEAST, GREATEST}) {
            Edges.refused("seat " + s, SeatEdgesTest::kinds, h -> h.credential(s), NONE);
        }
        Edges.refused("the alternate of a rival", h -> {
            kinds(h);
            h.seat(ALTERNATE, 0, 0, RIVAL);
        }, h -> h.credential(6), BAD);
    }

    // "A SEAT VOTES, if it is IN"
    private static void seatsThatAreOutDoNotVote() {
        for (int s = WHOLE; s <= BOUND; s++) {
            RollHall hall = withKinds();
            int all = hall.count(7);
            int halves = hall.about(s, 6);
            Edges.due("in: seat " + s, hall.about(s, 5), 1);
            hall.out(s, 1);
            Edges.due("out: seat " + s, hall.about(s, 5), 0);
            Edges.due("halves of seat " + s, hall.about(s, 6), 0);
            // SEAT 5, the ALTERNATE of SEAT 0, stands in for it.
            Edges.due("all without seat " + s, hall.count(7), s == 0 ? all : all - halves);
        }
    }

    // "of RIVAL ones if it is SEATED"
    private static void rivalsVoteIfSeatedAndIn() {
        RollHall hall = withKinds();
        Edges.due("in, not seated", hall.about(4, 5), 0);
        seatFor(hall, 4);
        Edges.due("in, seated", hall.about(4, 5), 1);
        hall.out(4, 1);
        Edges.due("out, seated", hall.about(4, 5), 0);
        Edges.due("no halves", hall.about(4, 6), 0);
        hall.out(4, 0);
        Edges.due("in again", hall.about(4, 5), 1);
    }

    // "of ALTERNATES if its SEAT is OUT"
    private static void alternatesVoteIfTheirSeatIsOut() {
        RollHall hall = withKinds();
        Edges.due("both in", hall.about(5, 5), 0);
        hall.out(5, 1);
        Edges.due("it is out, its seat is in", hall.about(5, 5), 0);
        hall.out(0, 1);
        Edges.due("both out", hall.about(5, 5), 0);
        Edges.due("no halves", hall.about(5, 6), 0);
        hall.out(5, 0);
        Edges.due("it is in, its seat is out", hall.about(5, 5), 1);
        hall.out(0, 0);
        Edges.due("both in again", hall.about(5, 5), 0);
    }

    // "(and would else VOTE)"
    private static void alternatesVoteIfTheirSeatWouldElseVote() {
        RollHall hall = withKinds();
        int s = hall.seat(ALTERNATE, 0, 0, RIVAL);
        hall.out(RIVAL, 1);
        Edges.due("of a rival that is not seated", hall.about(s, 5), 0);
        Edges.due("no halves", hall.about(s, 6), 0);
        seatFor(hall, 34);
        Edges.due("of a rival that is seated", hall.about(s, 5), 1);
        Edges.due("its halves", hall.about(s, 6), 2);
    }

    // "LIKES of a SEAT: (none at first)"
    private static void likesAreNoneAtFirst() {
        RollHall hall = withKinds();
        for (int s = 0; s < 6; s++) {
            Edges.due("about seat " + s, hall.about(s, 7), 0);
            Edges.due("unlike seat " + s, hall.unlike(s), 0);
            Edges.due("the first of seat " + s, hall.like(s, 0), 1);
        }
    }

    // "a row of NAMES (each once at most)": all 8 fit
    private static void likesAreEightAtMost() {
        RollHall hall = withKinds();
        for (int name = 0; name < 8; name++) {
            Edges.due("name " + name, hall.like(0, name), name + 1);
        }
        for (int name = 0; name < 8; name++) {
            Edges.due("name " + name + " again", hall.like(0, name), BAD);
        }
        Edges.due("eight", hall.about(0, 7), 8);
        Edges.due("the next seat has none", hall.about(1, 7), 0);
    }

    // like: "BAD: it is there"
    private static void aLikeThatIsThereIsBad() {
        Edges.Steps three = h -> {
            kinds(h);
            h.like(1, 5);
            h.like(1, 0);
            h.like(1, 7);
        };
        Edges.refused("the first", three, h -> h.like(1, 5), BAD);
        Edges.refused("the middle", three, h -> h.like(1, 0), BAD);
        Edges.refused("the last", three, h -> h.like(1, 7), BAD);
        RollHall hall = new RollHall();
        three.on(hall);
        hall.like(1, 7);
        hall.like(1, 0);
        hall.ballot();
        Edges.due("the first is still the first", hall.had(5), 1);
    }

    // like: "NONE"
    private static void likesAreOfSeatsAndNamesThatAreThere() {
        for (int name : new int[] {-1, 8, LEAST, GREATEST}) {
            Edges.refused("name " + name, SeatEdgesTest::kinds, h -> h.like(0, name), NONE);
        }
        for (int s : new int[] {-1, 6, 30, LEAST, GREATEST}) {
            Edges.refused("seat " + s, SeatEdgesTest::kinds, h -> h.like(s, 0), NONE);
        }
        RollHall hall = withKinds();
        Edges.due("name 0", hall.like(5, 0), 1);
        Edges.due("name 7", hall.like(5, 7), 2);
    }

    private static void unlikeLeavesNone() {
        RollHall hall = withKinds();
        hall.like(2, 3);
        hall.like(2, 4);
        hall.like(3, 3);
        Edges.due("two", hall.unlike(2), 2);
        Edges.due("none", hall.about(2, 7), 0);
        Edges.due("none to take", hall.unlike(2), 0);
        Edges.due("the next seat's stay", hall.about(3, 7), 1);
        Edges.due("what was there can come again", hall.like(2, 4), 1);
    }

    // unlike: "NONE"
    private static void unlikeIsOfSeatsThatAreThere() {
        for (int s : new int[] {-1, 6, 30, LEAST, GREATEST}) {
            Edges.refused("seat " + s, SeatEdgesTest::kinds, h -> h.unlike(s), NONE);
        }
        Edges.refused("no seat at all", h -> { }, h -> h.unlike(0), NONE);
    }

    private static void outTellsWhatItWas() {
        RollHall hall = withKinds();
        Edges.due("in, in", hall.out(1, 0), 0);
        Edges.due("in, out", hall.out(1, 1), 0);
        Edges.due("out, out", hall.out(1, 1), 1);
        Edges.due("out, in", hall.out(1, 0), 1);
        Edges.due("in", hall.about(1, 3), 0);
    }

    // out: "NONE; BAD"
    private static void outIsZeroOrOne() {
        for (int is : new int[] {-1, 2, LEAST, GREATEST}) {
            Edges.refused("is " + is, SeatEdgesTest::kinds, h -> h.out(0, is), BAD);
        }
        for (int s : new int[] {-1, 6, 30, LEAST, GREATEST}) {
            Edges.refused("seat " + s, SeatEdgesTest::kinds, h -> h.out(s, 1), NONE);
            Edges.refused("none ahead of bad, seat " + s, SeatEdgesTest::kinds, h -> h.out(s, 2), NONE);
        }
        Edges.refused("no seat at all", h -> { }, h -> h.out(0, 1), NONE);
    }

    // about: "4 for which claim it is SEATED (others: 1)"
    private static void othersAreSeatedForOne() {
        RollHall hall = withKinds();
        for (int s : new int[] {WHOLE, HALF, UNIT, BOUND, ALTERNATE}) {
            Edges.due("seat " + s, hall.about(s, 4), 1);
            hall.out(s, 1);
            Edges.due("seat " + s + ", out", hall.about(s, 4), 1);
        }
    }

    // about: "6 its halves (0: it does not)"
    private static void halvesOfOneThatDoesNotVoteAreNone() {
        RollHall hall = withKinds();
        hall.out(1, 1);
        Edges.due("out", hall.about(1, 6), 0);
        Edges.due("not seated", hall.about(4, 6), 0);
        Edges.due("an alternate whose seat is in", hall.about(5, 6), 0);
    }

    // about: what 0 .. 7; "NONE"
    private static void aboutIsOfEightThings() {
        RollHall hall = new RollHall();
        meetings(hall);
        hall.seat(RIVAL, 7, 2, 1);
        int[] want = {RIVAL, 7, 2, 0, 0, 0, 0, 1};
        hall.like(0, 6);
        for (int what = 0; what < 8; what++) {
            Edges.due("what " + what, hall.about(0, what), want[what]);
        }
        for (int what : new int[] {-1, 8, LEAST, GREATEST}) {
            Edges.refused("what " + what, SeatEdgesTest::kinds, h -> h.about(0, what), NONE);
        }
        for (int s : new int[] {-1, 6, 30, LEAST, GREATEST}) {
            Edges.refused("seat " + s, SeatEdgesTest::kinds, h -> h.about(s, 0), NONE);
        }
        Edges.refused("no seat at all", h -> { }, h -> h.about(0, 0), NONE);
    }

    private static void theLastSeatOfAllIsThere() {
        RollHall hall = new RollHall();
        fill(hall);
        Edges.due("about", hall.about(29, 1), 29 % 8);
        Edges.due("like", hall.like(29, 7), 1);
        Edges.due("out", hall.out(29, 1), 0);
        Edges.due("unlike", hall.unlike(29), 1);
        Edges.due("credential", hall.credential(29), BAD);
        Edges.due("behind it", hall.about(30, 1), NONE);
        Edges.due("all halves", hall.count(7), 58);
    }

    private static void looksLeaveAllAsItWas() {
        Edges.noTrace("about and credential", SeatEdgesTest::kinds, h -> {
            for (int what = 0; what < 8; what++) {
                h.about(4, what);
                h.about(5, what);
            }
            h.credential(4);
        });
    }
}
