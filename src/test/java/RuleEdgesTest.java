/** The edges of THE TAPE and RULES: part 2 of the document's terms, and promises 11 to 13. */
public final class RuleEdgesTest {
    private static final int NONE = RollHall.NONE, BAD = RollHall.BAD, FULL = RollHall.FULL;
    private static final int LEAST = Integer.MIN_VALUE, GREATEST = Integer.MAX_VALUE;
    private static final String[] KEYS = {"plank", "seat", "appeal", "name", "close"};
    private static final String[] FIELDS = {"ballots", "seats", "planks", "depth"};

    public static void main(String[] args) throws ReflectiveOperationException {
        Edges.run(RuleEdgesTest.class);
    }

    private static void isRule(String text) {
        RollHall hall = new RollHall();
        Edges.due(text, Due.rule(hall, text), 0);
        Edges.due("one rule by " + text, hall.count(2), 1);
        Edges.due("the tape behind " + text, hall.count(12), 0);
    }

    private static void isFault(String text, int place) {
        RollHall hall = new RollHall();
        Edges.due(text, Due.rule(hall, text), -10 - place);
        Edges.due("no rule by " + text, hall.count(2), 0);
        Edges.due("the tape behind " + text, hall.count(12), 0);
    }

    private static void endsTooEarly(String text) {
        isFault(text, text.length());
    }

    /** Ten RULES for plank, of which the last is in force. */
    private static void fill(RollHall hall) {
        for (int i = 0; i < 10; i++) {
            Due.rule(hall, "plank rank " + i + " need 1 of 2");
        }
    }

    private static void begin(RollHall hall) {
        Due.rule(hall, "plank rank 3 need 1 of 2");
        Due.feed(hall, "seat rank");
    }

    private static void feedBytes(RollHall hall, int n) {
        for (int left = n; left > 0; left -= Math.min(left, 8)) {
            hall.feed(0x6161616161616161L, Math.min(left, 8));
        }
    }

    // "THE TAPE (bytes, 120 at most)"
    private static void theTapeHas120BytesAtMost() {
        for (int n = 1; n <= 8; n++) {
            int some = n;
            RollHall hall = new RollHall();
            feedBytes(hall, 120 - n);
            Edges.due("to just 120 by " + n, hall.feed(0, n), 120);
            Edges.due("one more", hall.feed(0, 1), FULL);
            Edges.refused("beyond by one of " + n, h -> feedBytes(h, 121 - some), h -> h.feed(0, some), FULL);
            Edges.refused("beyond by all of " + n, h -> feedBytes(h, 120), h -> h.feed(0, some), FULL);
        }
    }

    /** A byte that came from a refused call would show behind the text. */
    private static void aRefusedFeedLeavesNoByte() {
        RollHall hall = new RollHall();
        Due.feed(hall, "name rank 0 need 1 of 2");
        hall.feed('x', 0);
        hall.feed('x', 9);
        Edges.due("bytes", hall.count(12), 23);
        Edges.due("a rule as it was", hall.rule(), 0);
    }

    // feed: "BAD: n not 1 .. 8; FULL"
    private static void oneToEightBytesAreFed() {
        for (int n = 1; n <= 8; n++) {
            Edges.due("n " + n, new RollHall().feed(-1L, n), n);
        }
        for (int n : new int[] {0, 9, -1, LEAST, GREATEST}) {
            Edges.refused("n " + n, RuleEdgesTest::begin, h -> h.feed(1, n), BAD);
            Edges.refused("bad ahead of full, n " + n, h -> feedBytes(h, 120), h -> h.feed(1, n), BAD);
        }
    }

    // feed: "The n lowest bytes of w, the highest first"
    private static void theLowestBytesComeTheHighestFirst() {
        String text = "close rank 9 need 1 of 2";
        for (int n = 1; n <= 8; n++) {
            RollHall hall = new RollHall();
            for (int at = 0; at < text.length(); at += n) {
                int some = Math.min(n, text.length() - at);
                // What lies above the n lowest bytes is no part of them.
                long w = 0x8ff7e6d5c4b3a291L;
                for (int i = 0; i < some; i++) {
                    w = w << 8 | text.charAt(at + i);
                }
                Edges.due("fed by " + n, hall.feed(w, some), at + some);
            }
            Edges.due("read as fed by " + n, hall.rule(), 0);
            Edges.due("by its key", hall.force(4), 0);
        }
    }

    private static void theHighestBitOfAWordIsABit() {
        for (int place = 0; place < 8; place++) {
            RollHall hall = new RollHall();
            long name = 0x6e616d652072616eL;
            hall.feed(name ^ 0x80L << 8 * (7 - place), 8);
            Edges.due("the bit 128 at " + place, hall.rule(), -10 - place);
        }
    }

    // feed: "come behind THE TAPE's"
    private static void bytesComeBehindThoseThatAreThere() {
        RollHall hall = new RollHall();
        Due.feed(hall, "seat rank 1 ");
        Due.feed(hall, "need 1 of 2");
        Edges.due("bytes", hall.count(12), 23);
        Edges.due("one text", hall.rule(), 0);
        Due.feed(hall, "need 1 of 2");
        Due.feed(hall, "seat rank 1 ");
        Edges.due("the other way about", hall.rule(), -11);
    }

    // "KEY: plank seat appeal name close"
    private static void thereAreFiveKeys() {
        for (int key = 0; key < 5; key++) {
            isRule(KEYS[key] + " rank 1 need 1 of 2");
            RollHall hall = new RollHall();
            Due.rule(hall, KEYS[key] + " rank 1 need 1 of 2");
            for (int other = 0; other < 5; other++) {
                Edges.due(KEYS[key] + " in force for " + other, hall.force(other), other == key ? 0 : NONE);
            }
        }
        isFault("motion rank 1 need 1 of 2", 0);
        isFault("Plank rank 1 need 1 of 2", 0);
        isFault("planks rank 1 need 1 of 2", 5);
        isFault("pear rank 1 need 1 of 2", 1);
        isFault("sear rank 1 need 1 of 2", 3);
        isFault("appear rank 1 need 1 of 2", 5);
        isFault("names rank 1 need 1 of 2", 4);
        isFault("closer rank 1 need 1 of 2", 5);
    }

    // "D, N, M one digit each"
    private static void ranksAndNeedsAreOneDigitEach() {
        for (int d = 0; d < 10; d++) {
            isRule("name rank " + d + " need " + (9 - d) + " of 9");
        }
        isFault("name rank 10 need 1 of 2", 11);
        isFault("name rank 1 need 10 of 2", 18);
        isFault("name rank 1 need 1 of 12", 23);
        isFault("name rank / need 1 of 2", 10);
        isFault("name rank : need 1 of 2", 10);
        isFault("name rank 1 need / of 2", 17);
        isFault("name rank 1 need : of 2", 17);
        isFault("name rank 1 need 1 of :", 22);
        isFault("name rank -1 need 1 of 2", 10);
        isFault("name rank  need 1 of 2", 10);
    }

    // "(M 1 .. 9)"
    private static void needsAreOfOneToNine() {
        for (int m = 1; m < 10; m++) {
            isRule("name rank 1 need 1 of " + m);
        }
        isFault("name rank 1 need 1 of 0", 22);
        isFault("name rank 1 need 0 of 0", 22);
        isFault("name rank 1 need 1 of 01", 22);
    }

    // "N above M is no FAULT"
    private static void aNeedAboveAllIsNoFault() {
        isRule("name rank 1 need 9 of 1");
        isRule("name rank 1 need 2 of 1");
        isRule("name rank 1 need 9 of 8");
        RollHall hall = new RollHall();
        Due.rule(hall, "name rank 1 need 9 of 1");
        hall.move(3, 0);
        Edges.due("N", hall.motion(0, 3), 9);
        Edges.due("M", hall.motion(0, 4), 1);
    }

    // "all with one blank between"
    private static void oneBlankIsBetween() {
        String good = "plank rank 1 need 1 of 2 if depth=1 and seats=1";
        for (int at = 0; at < good.length(); at++) {
            if (good.charAt(at) == ' ') {
                isFault(good.substring(0, at) + good.substring(at + 1), at);
                isFault(good.substring(0, at) + " " + good.substring(at), at + 1);
                isFault(good.substring(0, at) + "\t" + good.substring(at + 1), at);
                isFault(good.substring(0, at) + (char) 160 + good.substring(at + 1), at);
            }
        }
        isRule(good);
        isFault(" " + good, 0);
        isFault(good + " ", good.length());
    }

    // "TEST: FIELD, one of = < >, a number, without blanks"
    private static void testsAreWithoutBlanks() {
        isFault("name rank 1 need 1 of 2 if depth =1", 32);
        isFault("name rank 1 need 1 of 2 if depth= 1", 33);
        isFault("name rank 1 need 1 of 2 if de pth=1", 29);
        isFault("name rank 1 need 1 of 2 if depth=1 2", 35);
    }

    // "FIELD: ballots seats planks depth"
    private static void thereAreFourFields() {
        for (String field : FIELDS) {
            isRule("name rank 1 need 1 of 2 if " + field + "=0");
            isRule("name rank 1 need 1 of 2 if depth=0 and " + field + "=0");
        }
        isFault("name rank 1 need 1 of 2 if seat=0", 31);
        isFault("name rank 1 need 1 of 2 if plank=0", 32);
        isFault("name rank 1 need 1 of 2 if names=0", 27);
        isFault("name rank 1 need 1 of 2 if depths=0", 32);
    }

    // "one of = < >"
    private static void thereAreThreeSigns() {
        for (String sign : new String[] {"=", "<", ">"}) {
            isRule("name rank 1 need 1 of 2 if depth" + sign + "0");
        }
        for (String sign : new String[] {"!", ";", "?", "0"}) {
            isFault("name rank 1 need 1 of 2 if depth" + sign + "0", 32);
        }
        isFault("name rank 1 need 1 of 2 if depth<=0", 33);
        isFault("name rank 1 need 1 of 2 if depth==0", 33);
        isFault("name rank 1 need 1 of 2 if depth0", 32);
    }

    // "a number of 1 to 3 digits"
    private static void numbersHaveOneToThreeDigits() {
        String head = "name rank 1 need 1 of 2 if depth=";
        for (String number : new String[] {"0", "9", "00", "10", "99", "000", "007", "100", "999"}) {
            isRule(head + number);
            isRule(head + number + " and seats<" + number);
        }
        endsTooEarly(head);
        isFault(head + "-1", head.length());
        isFault(head + "/", head.length());
        isFault(head + ":", head.length());
        isFault(head + "1/", head.length() + 1);
        isFault(head + "12:", head.length() + 2);
        isFault(head + "1234", head.length() + 3);
        isFault(head + "0000", head.length() + 3);
        isFault(head + "1 and seats<1234", head.length() + 15);
        endsTooEarly(head + "1 and seats<");
    }

    // "and perhaps: if TEST, or if TEST and TEST"
    private static void thereAreTwoTestsAtMost() {
        isRule("name rank 1 need 1 of 2");
        isRule("name rank 1 need 1 of 2 if depth=0");
        isRule("name rank 1 need 1 of 2 if depth=0 and depth=0");
        isFault("name rank 1 need 1 of 2 if depth=0 and depth=0 and depth=0", 46);
        isFault("name rank 1 need 1 of 2 if depth=0 if depth=0", 35);
        isFault("name rank 1 need 1 of 2 and depth=0", 24);
        isFault("name rank 1 need 1 of 2 if depth=0 or depth=0", 35);
        isFault("name rank 1 need 1 of 2 if if", 27);
    }

    // "The FAULT is the place of the first byte with which none begins so"
    private static void theFaultIsTheFirstByteWithWhichNoneBegins() {
        String good = "appeal rank 1 need 1 of 2 if ballots=123 and planks>456";
        for (int at = 0; at < good.length(); at++) {
            isFault(good.substring(0, at) + "#" + good.substring(at + 1), at);
            isFault(good.substring(0, at) + "##" + good.substring(at + 1), at);
        }
        isRule(good);
        isFault(good + "#", good.length());
        isFault(good + "7", good.length());
        isFault("#", 0);
        isFault("x" + good, 0);
    }

    // "(the end of THE TAPE, if it ends too early)"
    private static void theFaultIsTheEndIfItEndsTooEarly() {
        String good = "close rank 1 need 1 of 2 if ballots=1 and planks>4";
        for (int n = 0; n < good.length(); n++) {
            if (n != 24 && n != 37) {
                endsTooEarly(good.substring(0, n));
            }
        }
        isRule(good.substring(0, 24));
        isRule(good.substring(0, 37));
        isRule(good);
    }

    // "(the end of THE TAPE ...)" of one without bytes
    private static void anEmptyTapeHasItsFaultAtZero() {
        RollHall hall = new RollHall();
        Edges.due("no byte", hall.rule(), -10);
        Edges.due("again", hall.rule(), -10);
        Edges.due("no rule", hall.count(2), 0);
    }

    private static void aFullTapeIsRead() {
        RollHall hall = new RollHall();
        Due.feed(hall, "appeal rank 1 need 1 of 2 if ballots=123 and planks>456");
        feedBytes(hall, 65);
        Edges.due("120 bytes", hall.count(12), 120);
        Edges.due("the first behind the rule", hall.rule(), -10 - 55);
        Edges.due("empty", hall.count(12), 0);
        Edges.due("the next text stands alone", Due.rule(hall, "name rank 1 need 1 of 2"), 0);
    }

    // rule: "THE TAPE, which is empty then"
    private static void aRuleLeavesTheTapeEmpty() {
        RollHall hall = new RollHall();
        Due.rule(hall, "appeal rank 1 need 1 of 2 if ballots=123 and planks>456");
        Edges.due("bytes", hall.count(12), 0);
        Edges.due("the next one has its first place", hall.feed('n', 1), 1);
        Edges.due("ends too early", hall.rule(), -11);
    }

    // rule: "-10 less the FAULT (THE TAPE is empty then, too)"
    private static void aFaultLeavesTheTapeEmpty() {
        RollHall hall = new RollHall();
        Edges.due("a fault", Due.rule(hall, "nane rank 1 need 1 of 2"), -12);
        Edges.due("bytes", hall.count(12), 0);
        Edges.due("the next text stands alone", Due.rule(hall, "name rank 1 need 1 of 2"), 0);
        Edges.due("a fault behind a rule", Due.rule(hall, "name rank 1 need 1 of 0"), -32);
        Edges.due("bytes again", hall.count(12), 0);
        Edges.due("still one rule", hall.count(2), 1);
    }

    /** What a FAULT left of a text that was read in part must not show in the next RULE. */
    private static void aFaultLeavesNothingOfItsText() {
        RollHall hall = new RollHall();
        Due.rule(hall, "close rank 9 need 9 of 9 if depth>900 and depth>900 and");
        Due.rule(hall, "name rank 1 need 2 of 3");
        Edges.due("in force without tests", hall.force(3), 0);
        Edges.due("none of the faulty key", hall.force(4), NONE);
        Due.rule(hall, "seat rank 1 need 1 of 2 if depth>900 and");
        Edges.due("one test is one test", Due.rule(hall, "seat rank 1 need 1 of 2 if depth=0"), 1);
        Edges.due("it holds", hall.force(1), 1);
    }

    // "RULES are numbered from 0 on"
    private static void rulesAreNumberedFromZeroOn() {
        RollHall hall = new RollHall();
        for (int i = 0; i < 5; i++) {
            Edges.due("rule " + i, Due.rule(hall, KEYS[i] + " rank 1 need 1 of 2"), i);
            Edges.due("a fault takes no number", Due.rule(hall, "?"), -10);
        }
    }

    // "10 at most"
    private static void tenRulesAtMost() {
        RollHall hall = new RollHall();
        for (int i = 0; i < 10; i++) {
            Edges.due("rule " + i, Due.rule(hall, "seat rank 1 need 1 of 2 if depth=0 and seats=0"), i);
        }
        Edges.due("the tenth is in force", hall.force(1), 9);
        Edges.refused("the 11th", h -> {
            fill(h);
            Due.feed(h, "plank rank 1 need 1 of 2");
        }, RollHall::rule, FULL);
        Edges.due("the 11th here", Due.rule(hall, "seat rank 2 need 1 of 2"), FULL);
        Edges.due("ten", hall.count(2), 10);
        Edges.due("the tenth still", hall.force(1), 9);
    }

    // rule: "FULL", which changes nothing: THE TAPE keeps its bytes, whatever they are
    private static void fullIsToldAheadOfAFault() {
        Edges.refused("an empty tape", RuleEdgesTest::fill, RollHall::rule, FULL);
        Edges.refused("a fault at once", h -> {
            fill(h);
            h.feed(0, 1);
        }, RollHall::rule, FULL);
        Edges.refused("an end too early", h -> {
            fill(h);
            Due.feed(h, "name rank 1 need");
        }, RollHall::rule, FULL);
        RollHall hall = new RollHall();
        fill(hall);
        Due.feed(hall, "name rank");
        hall.rule();
        Edges.due("bytes", hall.count(12), 9);
        Edges.due("a byte behind them", hall.feed('x', 1), 10);
    }

    // "the one of the greatest number with that KEY of which all TESTS hold"
    private static void theGreatestNumberIsInForce() {
        RollHall hall = new RollHall();
        Due.rule(hall, "seat rank 9 need 1 of 2");
        Due.rule(hall, "seat rank 1 need 1 of 2");
        Edges.due("not the greatest rank", hall.force(1), 1);
        Due.rule(hall, "name rank 5 need 1 of 2");
        Edges.due("not another key", hall.force(1), 1);
        Due.rule(hall, "seat rank 5 need 1 of 2 if depth>0");
        Edges.due("not one whose test does not hold", hall.force(1), 1);
        hall.move(4, 0);
        Edges.due("that one, when it holds", hall.force(1), 3);
        hall.vote(0);
        Edges.due("and no longer", hall.force(1), 1);
    }

    // "all TESTS hold"
    private static void bothTestsHold() {
        String[] tests = {"depth=0 and seats=0", "depth=0 and seats=1", "depth=1 and seats=0", "depth=1 and seats=1"};
        for (int i = 0; i < 4; i++) {
            RollHall hall = new RollHall();
            Due.rule(hall, "name rank 1 need 1 of 2 if " + tests[i]);
            Edges.due(tests[i], hall.force(3), i == 0 ? 0 : NONE);
        }
    }

    /** What = < > of the numbers just below, at and just above tell, of a FIELD that stands at 2. */
    private static void signsAround(RollHall hall, String field) {
        String[] tests = {"=1", "=2", "=3", "<1", "<2", "<3", ">1", ">2", ">3"};
        boolean[] holds = {false, true, false, false, false, true, true, false, false};
        for (int i = 0; i < tests.length; i++) {
            int r = Due.rule(hall, "close rank 1 need 1 of 2 if " + field + tests[i]);
            Edges.due(field + tests[i], hall.force(4) == r ? 1 : 0, holds[i] ? 1 : 0);
        }
    }

    // "ballots: how many BALLOTS were"
    private static void ballotsTellsHowManyWere() {
        RollHall hall = new RollHall();
        hall.ballot();
        hall.ballot();
        signsAround(hall, "ballots");
    }

    // "seats: how many SEATS VOTE"
    private static void seatsTellsHowManyVote() {
        RollHall hall = Due.hall();
        hall.meeting(0, NONE, 7, 5);
        hall.seat(1, 0, 0, 0);
        hall.seat(0, 0, 0, 0);
        hall.seat(0, 0, 0, 0);
        hall.seat(4, 0, 0, 1);
        hall.seat(5, 0, 0, 0);
        hall.out(2, 1);
        signsAround(hall, "seats");
    }

    // "planks: how many are TAKEN"
    private static void planksTellsHowManyAreTaken() {
        RollHall hall = new RollHall();
        Due.rule(hall, "plank rank 1 need 0 of 1");
        for (int p = 0; p < 4; p++) {
            hall.plank();
        }
        for (int p : new int[] {0, 1, 3, 1}) {
            hall.move(0, p);
            hall.vote(0);
        }
        signsAround(hall, "planks");
    }

    // "depth: MOTIONS that are open"
    private static void depthTellsHowManyAreOpen() {
        RollHall hall = new RollHall();
        Due.rule(hall, "name rank 1 need 1 of 2");
        hall.move(2, 0);
        hall.move(3, 0);
        signsAround(hall, "depth");
    }

    private static void numbersOfTestsAreDecimal() {
        RollHall hall = new RollHall();
        Due.rule(hall, "plank rank 1 need 1 of 2 if ballots=123");
        Due.rule(hall, "seat rank 1 need 1 of 2 if ballots=010");
        Due.rule(hall, "appeal rank 1 need 1 of 2 if ballots=09");
        Due.rule(hall, "name rank 1 need 1 of 2 if ballots<999");
        for (int i = 0; i < 123; i++) {
            if (i > 8 && i < 12) {
                Edges.due("=010 after " + i, hall.force(1), i == 10 ? 1 : NONE);
                Edges.due("=09 after " + i, hall.force(2), i == 9 ? 2 : NONE);
            }
            Edges.due("=123 after " + i, hall.force(0), NONE);
            hall.ballot();
        }
        Edges.due("=123", hall.force(0), 0);
        Edges.due("<999", hall.force(3), 3);
    }

    // force: "NONE: none, too"
    private static void forceIsNoneWithoutARule() {
        for (int key = 0; key < 5; key++) {
            int k = key;
            Edges.refused("key " + key, h -> { }, h -> h.force(k), NONE);
        }
        Edges.refused("no test holds", h -> Due.rule(h, "seat rank 1 need 1 of 2 if depth>0"), h -> h.force(1), NONE);
    }

    // force: "a KEY (0 plank, 1 seat, 2 appeal, 3 name, 4 close)"; "NONE"
    private static void forceIsOfFiveKeys() {
        Edges.Steps all = h -> {
            for (String key : KEYS) {
                Due.rule(h, key + " rank 1 need 1 of 2");
            }
        };
        RollHall hall = new RollHall();
        all.on(hall);
        for (int key = 0; key < 5; key++) {
            Edges.due("key " + key, hall.force(key), key);
        }
        for (int key : new int[] {-1, 5, LEAST, GREATEST}) {
            Edges.refused("key " + key, all, h -> h.force(key), NONE);
        }
    }

    private static void forceLeavesAllAsItWas() {
        Edges.noTrace("force", RuleEdgesTest::begin, h -> {
            for (int key = -1; key <= 5; key++) {
                h.force(key);
            }
        });
    }

    // "Without one: rank 0, need 1 of 2"
    private static void withoutARuleItIsRankZeroAndHalf() {
        for (int key = 0; key < 5; key++) {
            RollHall hall = Due.hall();
            hall.meeting(0, NONE, 7, 5);
            hall.plank();
            hall.seat(4, 0, 0, 1);
            Edges.due("moved, key " + key, hall.move(key, 0), 1);
            Edges.due("rank, key " + key, hall.motion(0, 2), 0);
            Edges.due("N, key " + key, hall.motion(0, 3), 1);
            Edges.due("M, key " + key, hall.motion(0, 4), 2);
        }
    }

    private static void aRuleWhoseTestsDoNotHoldIsNone() {
        RollHall hall = new RollHall();
        Due.rule(hall, "name rank 7 need 5 of 6 if depth>0");
        hall.move(3, 0);
        Edges.due("rank", hall.motion(0, 2), 0);
        Edges.due("N", hall.motion(0, 3), 1);
        Edges.due("M", hall.motion(0, 4), 2);
    }
}
