/** The edges of BARGAINS: part 5 of the document's terms, and promises 24 to 28. */
public final class BargainEdgesTest {
    private static final int NONE = RollHall.NONE, BAD = RollHall.BAD, FULL = RollHall.FULL;
    private static final int LEAST = Integer.MIN_VALUE, GREATEST = Integer.MAX_VALUE;

    public static void main(String[] args) throws ReflectiveOperationException {
        Edges.run(BargainEdgesTest.class);
    }

    /** GROUPS 0, 1 and 2 with a vote each, and an OFFER to each two: 0 to 0, 1; 1 to 1, 2; 2 to 0, 2. */
    private static void pairs(RollHall hall) {
        for (int g = 0; g < 3; g++) {
            hall.group(g, 1);
        }
        hall.offer(3);
        hall.offer(6);
        hall.offer(5);
    }

    private static RollHall withPairs() {
        RollHall hall = new RollHall();
        pairs(hall);
        return hall;
    }

    private static void fill(RollHall hall) {
        for (int i = 0; i < 12; i++) {
            hall.offer(63 - i);
        }
    }

    private static void give(RollHall hall, int offer, int g, int worth) {
        Edges.due("offer " + offer + " to " + g + " first", hall.gets(offer, g, worth), 0);
    }

    // "GROUPS 0 .. 5"
    private static void groupsAreZeroToFive() {
        for (int g = 0; g < 6; g++) {
            Edges.due("group " + g, new RollHall().group(g, 1), 0);
        }
        for (int g : new int[] {-1, 6, LEAST, GREATEST}) {
            Edges.refused("group " + g, BargainEdgesTest::pairs, h -> h.group(g, 1), NONE);
        }
    }

    // "each with votes (0 .. 99)"
    private static void votesAreZeroToNinetyNine() {
        RollHall hall = new RollHall();
        Edges.due("none at first", hall.group(5, 99), 0);
        Edges.due("99", hall.group(5, 0), 99);
        Edges.due("0", hall.group(5, 1), 0);
        for (int votes : new int[] {-1, 100, LEAST, GREATEST}) {
            Edges.refused("votes " + votes, BargainEdgesTest::pairs, h -> h.group(0, votes), BAD);
        }
    }

    // group: "NONE; BAD", of several the first one told
    private static void ofAGroupNoneIsToldAheadOfBad() {
        Edges.refused("group 6, votes 100", BargainEdgesTest::pairs, h -> h.group(6, 100), NONE);
        Edges.refused("group -1, votes -1", BargainEdgesTest::pairs, h -> h.group(-1, -1), NONE);
    }

    // "OFFERS are numbered from 0 on, 12 at most"
    private static void twelveOffersAtMost() {
        RollHall hall = new RollHall();
        for (int i = 0; i < 12; i++) {
            Edges.due("offer " + i, hall.offer(1 + i), i);
        }
        Edges.due("how many", hall.count(10), 12);
        Edges.due("the last is there", hall.gets(11, 2, 5), 0);
        Edges.refused("the 13th", BargainEdgesTest::fill, h -> h.offer(1), FULL);
        Edges.refused("the 13th, to all", BargainEdgesTest::fill, h -> h.offer(63), FULL);
    }

    // offer: "BAD: the set (1 .. 63); FULL"
    private static void setsAreOneToSixtyThree() {
        Edges.due("set 1", new RollHall().offer(1), 0);
        Edges.due("set 32", new RollHall().offer(32), 0);
        Edges.due("set 63", new RollHall().offer(63), 0);
        for (int set : new int[] {0, 64, 65, -1, LEAST, GREATEST}) {
            Edges.refused("set " + set, BargainEdgesTest::pairs, h -> h.offer(set), BAD);
            Edges.refused("bad ahead of full, set " + set, BargainEdgesTest::fill, h -> h.offer(set), BAD);
        }
    }

    private static void aRefusedOfferTakesNoNumber() {
        RollHall hall = new RollHall();
        hall.offer(0);
        hall.offer(64);
        Edges.due("the first one that is there", hall.offer(1), 0);
    }

    // "what it would get (a worth, 0 .. 99)"; gets: "(0 at first)"
    private static void worthsAreZeroToNinetyNine() {
        RollHall hall = withPairs();
        Edges.due("0 at first", hall.gets(0, 0, 99), 0);
        Edges.due("99", hall.gets(0, 0, 0), 99);
        Edges.due("0", hall.gets(0, 0, 1), 0);
        for (int worth : new int[] {-1, 100, LEAST, GREATEST}) {
            Edges.refused("worth " + worth, BargainEdgesTest::pairs, h -> h.gets(0, 0, worth), BAD);
        }
    }

    private static void eachOfferAndGroupHasItsWorth() {
        RollHall hall = new RollHall();
        fill(hall);
        for (int offer = 0; offer < 12; offer++) {
            for (int g = 0; g < 6; g++) {
                boolean in = (63 - offer >> g & 1) == 1;
                Edges.due("offer " + offer + " to " + g, hall.gets(offer, g, 6 * offer + g), in ? 0 : NONE);
            }
        }
        for (int offer = 0; offer < 12; offer++) {
            for (int g = 0; g < 6; g++) {
                boolean in = (63 - offer >> g & 1) == 1;
                Edges.due("offer " + offer + " to " + g + " was", hall.gets(offer, g, 0), in ? 6 * offer + g : NONE);
            }
        }
    }

    // gets: "NONE: also not in it"
    private static void aGroupThatIsNotInItGetsNothing() {
        Edges.refused("group 2 of offer 0", BargainEdgesTest::pairs, h -> h.gets(0, 2, 1), NONE);
        Edges.refused("group 0 of offer 1", BargainEdgesTest::pairs, h -> h.gets(1, 0, 1), NONE);
        Edges.refused("group 5 of offer 2", BargainEdgesTest::pairs, h -> h.gets(2, 5, 1), NONE);
        for (int g : new int[] {-1, 6, 32, 33, -32, LEAST, GREATEST}) {
            Edges.refused("group " + g, BargainEdgesTest::pairs, h -> h.gets(0, g, 1), NONE);
        }
        for (int offer : new int[] {-1, 3, 12, LEAST, GREATEST}) {
            Edges.refused("offer " + offer, BargainEdgesTest::pairs, h -> h.gets(offer, 0, 1), NONE);
        }
        Edges.refused("no offer at all", h -> { }, h -> h.gets(0, 0, 1), NONE);
    }

    // gets: "NONE ...; BAD", of several the first one told
    private static void ofAWorthNoneIsToldAheadOfBad() {
        Edges.refused("offer 3, worth 100", BargainEdgesTest::pairs, h -> h.gets(3, 0, 100), NONE);
        Edges.refused("group 6, worth 100", BargainEdgesTest::pairs, h -> h.gets(0, 6, 100), NONE);
        Edges.refused("not in it, worth -1", BargainEdgesTest::pairs, h -> h.gets(0, 2, -1), NONE);
    }

    // "An OFFER WINS, if its GROUPS have more than half of all votes"
    private static void winsNeedsMoreThanHalf() {
        for (int others = 19; others <= 21; others++) {
            RollHall hall = new RollHall();
            hall.group(0, 9);
            hall.group(5, 11);
            hall.group(3, others);
            hall.offer(33);
            Edges.due("20 against " + others, hall.bargain(0, 0), others < 20 ? 1 : 0);
            Edges.due("stable, 20 against " + others, hall.bargain(0, 1), others < 20 ? 1 : 0);
        }
    }

    private static void anOddVoteDecides() {
        RollHall hall = new RollHall();
        hall.group(0, 1);
        hall.group(1, 2);
        hall.offer(1);
        hall.offer(2);
        Edges.due("1 of 3", hall.bargain(0, 0), 0);
        Edges.due("2 of 3", hall.bargain(1, 0), 1);
    }

    private static void nothingIsNotMoreThanHalfOfNothing() {
        RollHall hall = new RollHall();
        hall.offer(63);
        Edges.due("no votes at all", hall.bargain(0, 0), 0);
        Edges.due("not stable", hall.bargain(0, 1), 0);
        Edges.due("nothing breaks it", hall.breaks(0), NONE);
        hall.group(4, 1);
        Edges.due("one vote", hall.bargain(0, 0), 1);
    }

    private static void allVotesAtTheirMost() {
        RollHall hall = new RollHall();
        for (int g = 0; g < 6; g++) {
            hall.group(g, 99);
        }
        hall.offer(7);
        hall.offer(15);
        hall.offer(63);
        Edges.due("three of six", hall.bargain(0, 0), 0);
        Edges.due("four of six", hall.bargain(1, 0), 1);
        Edges.due("all", hall.bargain(2, 0), 1);
    }

    // "STABLE, if it WINS"
    private static void anOfferThatDoesNotWinIsNotStable() {
        RollHall hall = withPairs();
        hall.offer(1);
        hall.gets(3, 0, 99);
        Edges.due("wins not", hall.bargain(3, 0), 0);
        Edges.due("stable not", hall.bargain(3, 1), 0);
    }

    private static void anOfferThatIsBrokenWinsAllTheSame() {
        RollHall hall = withPairs();
        give(hall, 1, 1, 1);
        give(hall, 1, 2, 1);
        Edges.due("broken", hall.breaks(0), 1);
        Edges.due("wins", hall.bargain(0, 0), 1);
        Edges.due("not stable", hall.bargain(0, 1), 0);
    }

    // "and no other one that WINS"
    private static void anOfferThatDoesNotWinBreaksNothing() {
        RollHall hall = withPairs();
        hall.offer(1);
        hall.gets(3, 0, 99);
        Edges.due("stable", hall.bargain(0, 1), 1);
        Edges.due("not broken", hall.breaks(0), NONE);
        hall.group(0, 3);
        Edges.due("it wins now", hall.bargain(3, 0), 1);
        Edges.due("no more stable", hall.bargain(0, 1), 0);
        Edges.due("broken", hall.breaks(0), 3);
    }

    // "no other one": an OFFER does not break itself
    private static void anOfferDoesNotBreakItself() {
        RollHall hall = new RollHall();
        hall.group(0, 1);
        hall.offer(1);
        hall.gets(0, 0, 9);
        Edges.due("alone", hall.bargain(0, 1), 1);
        Edges.due("nothing breaks it", hall.breaks(0), NONE);
    }

    // "gives each of its own GROUPS more than this one does": as much is not more
    private static void asMuchIsNotMore() {
        RollHall hall = withPairs();
        give(hall, 0, 0, 5);
        give(hall, 0, 1, 5);
        give(hall, 1, 1, 5);
        give(hall, 1, 2, 9);
        Edges.due("group 1 gets as much", hall.breaks(0), NONE);
        Edges.due("stable", hall.bargain(0, 1), 1);
        hall.gets(1, 1, 6);
        Edges.due("group 1 gets more", hall.breaks(0), 1);
        Edges.due("not stable", hall.bargain(0, 1), 0);
    }

    // "each of its own GROUPS"
    private static void moreForSomeIsNotEnough() {
        RollHall hall = withPairs();
        hall.offer(7);
        give(hall, 0, 0, 5);
        give(hall, 0, 1, 5);
        give(hall, 3, 0, 6);
        give(hall, 3, 1, 6);
        Edges.due("group 2 gets none of both", hall.breaks(0), NONE);
        hall.gets(3, 2, 1);
        Edges.due("more for all three", hall.breaks(0), 3);
        hall.gets(3, 0, 4);
        Edges.due("less for the first", hall.breaks(0), NONE);
    }

    /** Only those GROUPS count that are in the OFFER that would break. */
    private static void groupsOfTheBrokenOneAreNotAsked() {
        RollHall hall = withPairs();
        hall.offer(7);
        give(hall, 3, 0, 99);
        give(hall, 3, 1, 1);
        give(hall, 3, 2, 1);
        give(hall, 1, 1, 2);
        give(hall, 1, 2, 2);
        Edges.due("group 0 loses all", hall.breaks(3), 1);
    }

    // "(to GROUPS that are not in an OFFER it gives 0)"
    private static void thoseWhoAreNotInItGetNothing() {
        RollHall hall = withPairs();
        give(hall, 0, 0, 5);
        give(hall, 0, 1, 5);
        give(hall, 1, 1, 6);
        Edges.due("group 2 gets 0 of both", hall.breaks(0), NONE);
        hall.gets(1, 2, 1);
        Edges.due("group 2 gets 1 and 0", hall.breaks(0), 1);
    }

    private static void offersOfNothingAreStable() {
        RollHall hall = withPairs();
        for (int offer = 0; offer < 3; offer++) {
            Edges.due("offer " + offer, hall.bargain(offer, 1), 1);
            Edges.due("breaks " + offer, hall.breaks(offer), NONE);
        }
    }

    // bargain: "NONE"
    private static void bargainsAreOfOffersThatAreThere() {
        for (int offer : new int[] {-1, 3, 12, LEAST, GREATEST}) {
            Edges.refused("offer " + offer, BargainEdgesTest::pairs, h -> h.bargain(offer, 0), NONE);
            Edges.refused("stable, offer " + offer, BargainEdgesTest::pairs, h -> h.bargain(offer, 1), NONE);
        }
        for (int what : new int[] {-1, 2, LEAST, GREATEST}) {
            Edges.refused("what " + what, BargainEdgesTest::pairs, h -> h.bargain(0, what), NONE);
        }
        Edges.refused("no offer at all", h -> { }, h -> h.bargain(0, 0), NONE);
    }

    // breaks: "The first OFFER that breaks"
    private static void theFirstOneBreaks() {
        RollHall hall = withPairs();
        for (int i = 0; i < 2; i++) {
            hall.offer(3);
            give(hall, 3 + i, 0, 5 + i);
            give(hall, 3 + i, 1, 5 + i);
        }
        Edges.due("3 ahead of 4", hall.breaks(0), 3);
        Edges.due("4 breaks 3", hall.breaks(3), 4);
        Edges.due("nothing breaks 4", hall.breaks(4), NONE);
        hall.gets(0, 0, 5);
        hall.gets(0, 1, 5);
        Edges.due("4 alone now", hall.breaks(0), 4);
        hall.gets(4, 0, 0);
        hall.gets(4, 1, 0);
        Edges.due("a lesser number breaks, too", hall.breaks(4), 0);
    }

    private static void allTwelveAreLookedAt() {
        RollHall hall = new RollHall();
        hall.group(5, 1);
        for (int i = 0; i < 12; i++) {
            hall.offer(32);
        }
        for (int offer = 0; offer < 12; offer++) {
            Edges.due("stable " + offer, hall.bargain(offer, 1), 1);
            Edges.due("breaks " + offer, hall.breaks(offer), NONE);
        }
        hall.gets(11, 5, 1);
        for (int offer = 0; offer < 12; offer++) {
            Edges.due("stable but for the last " + offer, hall.bargain(offer, 1), offer == 11 ? 1 : 0);
            Edges.due("by the last " + offer, hall.breaks(offer), offer == 11 ? NONE : 11);
        }
    }

    // breaks: "one that WINS but is not STABLE. NONE: none, too"
    private static void nothingBreaksOneThatDoesNotWin() {
        RollHall hall = withPairs();
        hall.offer(1);
        give(hall, 0, 0, 9);
        give(hall, 0, 1, 9);
        Edges.due("it does not win", hall.bargain(3, 0), 0);
        Edges.due("so nothing breaks it", hall.breaks(3), NONE);
        for (int offer : new int[] {-1, 3, 12, LEAST, GREATEST}) {
            Edges.refused("offer " + offer, BargainEdgesTest::pairs, h -> h.breaks(offer), NONE);
        }
        Edges.refused("no offer at all", h -> { }, h -> h.breaks(0), NONE);
    }

    private static void looksLeaveAllAsItWas() {
        Edges.noTrace("bargain and breaks", BargainEdgesTest::pairs, h -> {
            h.bargain(1, 0);
            h.bargain(1, 1);
            h.breaks(1);
        });
    }
}
