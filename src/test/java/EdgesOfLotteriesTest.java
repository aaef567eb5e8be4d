/** The edges in "Lotteries" of the document. */
public final class EdgesOfLotteriesTest {
    private static final int DAY = 40;
    private static final Edges edges = new Edges();

    private EdgesOfLotteriesTest() {
    }

    public static void main(String[] args) {
        test("A lottery of a route and a day is among its applications that are APPLIED,", EdgesOfLotteriesTest::whoIsInIt);
        test("except those of climbers who are barred then", EdgesOfLotteriesTest::exceptBarred);
        test("(\"barred then\" means, here and below: barred up to the day of the application or a later one);",
                EdgesOfLotteriesTest::barredThen);
        test("these become LOST first (if there are no others, there is no draw).", EdgesOfLotteriesTest::noOthers);
        test("The tickets of an application are 1 + MEMORY * (the memory of its climber as it is when the lottery begins).",
                EdgesOfLotteriesTest::tickets);
        test("As long as there are applications left (also for the last one, and if no place is left):",
                EdgesOfLotteriesTest::drawForEach);
        test("SEED becomes (75 * SEED + 74) mod 65537,", EdgesOfLotteriesTest::seedWrapsAround);
        test("and 65536 is replaced by 0;", EdgesOfLotteriesTest::seedStaysInRange);
        test("with T as the sum of the tickets of those that are left, and x = SEED mod T,", EdgesOfLotteriesTest::ticketsLeft);
        test("the one is drawn at which, in ascending order, the sum of the tickets becomes greater than x.",
                EdgesOfLotteriesTest::sumGreaterThanX);
        test("If its party fits into what the places left are, which is the limit minus the buffer minus the places taken, a "
                + "permit is given to it;", EdgesOfLotteriesTest::fits);
        test("otherwise it becomes LOST.", EdgesOfLotteriesTest::doesNotFit);
        test("It is not left any more.", EdgesOfLotteriesTest::notLeft);
        test("When the lottery is over, for each climber with an application in it: the memory becomes 0 if this is WON, "
                + "otherwise it increases by 1.", EdgesOfLotteriesTest::memories);
        test("(Those who are barred are not in it.", EdgesOfLotteriesTest::memoryOfBarred);
        test("What is left of places can be below 0; nothing fits then.)", EdgesOfLotteriesTest::belowZero);
        edges.close();
    }

    private static void test(String sentence, Runnable test) {
        edges.test("Terms", sentence, test);
    }

    /** The lottery of the route 0 and the DAY, of which the first draw is a number; its answer. */
    private static int draw(ClimbPermits x, int firstDraw) {
        x.set(Edges.SEED, Edges.seedBefore(firstDraw));
        return x.lottery(0, DAY);
    }

    private static void states(String what, ClimbPermits x, int first, int... due) {
        for (int i = 0; i < due.length; i++) {
            edges.due(what + ", state of the application " + (first + i), x.application(first + i, 4), due[i]);
        }
    }

    private static void whoIsInIt() {
        ClimbPermits x = Edges.office(6, 3, 5);
        x.route(6, 3);
        Edges.won(x, 0, 0, DAY, 1);
        Edges.lost(x, 1, 0, DAY, 4);
        x.apply(2, 0, DAY, 1);
        x.cancel(2);
        x.apply(2, 0, DAY, 1);
        x.apply(3, 1, DAY, 1);
        x.apply(3, 0, DAY + 1, 1);
        x.apply(3, 0, DAY - 1, 1);
        x.set(Edges.SEED, 1);
        edges.due("one permit", x.lottery(0, DAY), 1);
        edges.due("one draw", x.count(20), 149);
        states("behind it", x, 0, Edges.WON, Edges.LOST, Edges.CANCELLED, Edges.WON, Edges.APPLIED, Edges.APPLIED, Edges.APPLIED);
        edges.due("the memory of one who lost before", x.climber(1, 0), 1);
        edges.due("none is left", x.lottery(0, DAY), Edges.NOT_POSSIBLE);
    }

    /** Applications of the climber 0 for three days, who is barred up to the second one then, and of the climber 1. */
    private static ClimbPermits barredUpTo(int day) {
        ClimbPermits x = Edges.office(1, 0, 2);
        for (int i = -1; i <= 1; i++) {
            x.apply(0, 0, day + i, 1);
            x.apply(1, 0, day + i, 1);
        }
        Edges.bar(x, 0, 0, day);
        return x;
    }

    private static void exceptBarred() {
        for (int draw = 0; draw < 2; draw++) {
            ClimbPermits x = Edges.office(1, 0, 3);
            x.apply(0, 0, 20, 1);
            x.apply(1, 0, 20, 1);
            x.apply(2, 0, 20, 1);
            Edges.bar(x, 1, 0, 20);
            x.set(Edges.SEED, Edges.seedBefore(draw));
            edges.due("one permit", x.lottery(0, 20), 1);
            states("draw " + draw, x, 0, draw == 0 ? Edges.WON : Edges.LOST, Edges.LOST, draw == 1 ? Edges.WON : Edges.LOST);
            edges.due("two draws", x.count(20), Edges.seedBehind(draw));
        }
    }

    private static void barredThen() {
        ClimbPermits x = barredUpTo(20);
        int[] inIt = {1, 1, 2};
        for (int i = 0; i < 3; i++) {
            int day = 19 + i;
            int expected = inIt[i];
            x.set(Edges.SEED, 1);
            edges.due("odds of the other one, day " + day, x.odds(2 * i + 1), 1000000 / expected);
            edges.due("tries, day " + day, x.tries(2 * i, 200) > 0 ? 2 : 1, expected);
            edges.due("odds, day " + day, x.odds(2 * i), expected == 1 ? Edges.NOT_POSSIBLE : 500000);
            edges.due("permits, day " + day, x.lottery(0, day), 1);
            edges.due("draws, day " + day, x.count(20), expected == 1 ? 149 : 11249);
            edges.due("apply again, day " + day, x.apply(0, 0, day, 1), Edges.NOT_POSSIBLE);
        }
        edges.due("it was in one of the three lotteries, and lost", x.climber(0, 0), 1);
    }

    private static void noOthers() {
        ClimbPermits x = Edges.office(2, 0, 2);
        x.apply(0, 0, 10, 1);
        x.apply(1, 0, 11, 1);
        Edges.bar(x, 0, 0, 10);
        x.set(Edges.SEED, 5);
        edges.due("no permit", x.lottery(0, 10), 0);
        states("the barred one", x, 0, Edges.LOST, Edges.APPLIED);
        edges.due("no draw", x.count(20), 5);
        edges.due("memory", x.climber(0, 0), 0);
        edges.due("nothing paid", x.application(0, 5), 0);
        edges.due("no place taken", x.onRoute(0, 10, 2), 0);
        edges.due("nothing is left", x.lottery(0, 10), Edges.NOT_POSSIBLE);
    }

    /** An office with one place a day, where the climber i has a memory, and applies for the DAY. */
    private static ClimbPermits withMemories(int... memories) {
        ClimbPermits x = Edges.office(1, 0, memories.length);
        for (int climber = 0; climber < memories.length; climber++) {
            Edges.lose(x, climber, 0, 1 + 5 * climber, memories[climber]);
        }
        return x;
    }

    /** All climbers apply for the DAY; the number of the first application. */
    private static int allApply(ClimbPermits x, int party) {
        int first = x.count(3);
        for (int climber = 0; climber < x.count(2); climber++) {
            x.apply(climber, 0, DAY, party);
        }
        return first;
    }

    private static void tickets() {
        for (int memory = 0; memory <= 3; memory++) {
            for (int each = 0; each <= 9; each += 3) {
                ClimbPermits x = withMemories(memory, 0);
                int first = allApply(x, 1);
                x.set(Edges.MEMORY, each);
                int tickets = 1 + each * memory;
                edges.due("tickets", x.application(first, 9), tickets);
                edges.due("tickets without memory", x.application(first + 1, 9), 1);
                edges.due("odds", x.odds(first), 1000000 * tickets / (tickets + 1));
                x.save(0);
                draw(x, tickets - 1);
                edges.due("its last ticket", x.application(first, 4), Edges.WON);
                x.restore(0);
                draw(x, tickets);
                edges.due("the ticket of the other one", x.application(first + 1, 4), Edges.WON);
            }
        }
    }

    private static void drawForEach() {
        for (int entries = 1; entries <= 12; entries++) {
            for (int limit = 1; limit <= 12; limit += 11) {
                for (int buffer = 0; buffer <= 1; buffer++) {
                    ClimbPermits x = Edges.office(limit, buffer, entries);
                    allApply(x, 1);
                    int places = limit - buffer;
                    edges.due("permits of " + entries, x.lottery(0, DAY), Math.min(places, entries));
                    int seed = 1;
                    for (int draws = 0; draws < entries; draws++) {
                        seed = Edges.seedBehind(seed);
                    }
                    edges.due("SEED behind " + entries + " draws with " + places + " places", x.count(20), seed);
                }
            }
        }
    }

    private static int seedAfterOneDraw(int seed) {
        ClimbPermits x = Edges.office(1, 0, 1);
        x.apply(0, 0, DAY, 1);
        x.set(Edges.SEED, seed);
        x.lottery(0, DAY);
        return x.count(20);
    }

    private static void seedWrapsAround() {
        edges.due("behind 0", seedAfterOneDraw(0), 74);
        edges.due("the last one below 65537", seedAfterOneDraw(872), 65474);
        edges.due("the first one above it", seedAfterOneDraw(873), 12);
        edges.due("twice around", seedAfterOneDraw(1747), 25);
        edges.due("the last one of a round", seedAfterOneDraw(1746), 65487);
        edges.due("the highest", seedAfterOneDraw(65535), 65461);
        edges.due("to 0", seedAfterOneDraw(Edges.seedBefore(0)), 0);
        edges.due("to 65535", seedAfterOneDraw(Edges.seedBefore(65535)), 65535);
        edges.due("to 65534", seedAfterOneDraw(Edges.seedBefore(65534)), 65534);
    }

    /** From every SEED; a new object is taken before the calls of one become too many. */
    private static void seedStaysInRange() {
        int inRange = 0;
        int asDue = 0;
        ClimbPermits x = null;
        for (int seed = 0; seed <= 65535; seed++) {
            if (seed % 100 == 0) {
                x = Edges.office(1, 0, 1);
                x.apply(0, 0, DAY, 1);
                x.save(0);
            }
            x.restore(0);
            x.set(Edges.SEED, seed);
            x.lottery(0, DAY);
            int behind = x.count(20);
            inRange += behind >= 0 && behind <= 65535 ? 1 : 0;
            asDue += behind == Edges.seedBehind(seed) % 65536 ? 1 : 0;
        }
        edges.due("in range", inRange, 65536);
        edges.due("as due", asDue, 65536);
    }

    /** The first SEED from which the first draw is 0 to 2 (mod 6) and the second is a number (mod 6). */
    private static int seedFor(int second) {
        int seed = 0;
        while (Edges.seedBehind(seed) % 6 > 2 || Edges.seedBehind(Edges.seedBehind(seed)) % 6 != second) {
            seed++;
        }
        return seed;
    }

    private static void ticketsLeft() {
        // Tickets 3, 1 and 2: the first one is drawn first, and of the 3 that are left T mod 3 decides, not T mod 6.
        for (int second = 0; second < 6; second++) {
            ClimbPermits x = withMemories(2, 0, 1);
            int first = allApply(x, 1);
            x.route(2, 0);
            x.apply(0, 1, DAY, 1);
            x.apply(1, 1, DAY, 1);
            x.apply(2, 1, DAY, 1);
            x.set(Edges.SEED, seedFor(second));
            edges.due("two permits", x.lottery(1, DAY), 2);
            boolean middle = second % 3 == 0;
            states("second draw " + second, x, first + 3, Edges.WON, middle ? Edges.WON : Edges.LOST,
                    middle ? Edges.LOST : Edges.WON);
        }
    }

    private static void sumGreaterThanX() {
        // The sums are 3, 4 and 6.
        int[] drawn = {0, 0, 0, 1, 2, 2};
        for (int draw = 0; draw < 12; draw++) {
            ClimbPermits x = withMemories(2, 0, 1);
            int first = allApply(x, 1);
            edges.due("one permit", draw(x, draw), 1);
            for (int i = 0; i < 3; i++) {
                int due = drawn[draw % 6] == i ? Edges.WON : Edges.LOST;
                edges.due("x = " + draw % 6 + ", application " + i, x.application(first + i, 4), due);
            }
        }
        ClimbPermits x = withMemories(2, 0, 1);
        int first = allApply(x, 1);
        draw(x, 65535);
        edges.due("65535 mod 6 = 3", x.application(first + 1, 4), Edges.WON);
    }

    private static void fits() {
        for (int buffer = 0; buffer <= 4; buffer++) {
            for (int taken = 0; taken <= 4; taken++) {
                for (int party = 1; party <= 4; party++) {
                    ClimbPermits x = Edges.office(6, 0, 2);
                    if (taken > 0) {
                        Edges.won(x, 0, 0, DAY, taken);
                    }
                    x.buffer(0, buffer);
                    int made = x.apply(1, 0, DAY, party);
                    boolean fits = party <= 6 - buffer - taken;
                    String what = party + " into 6 - " + buffer + " - " + taken;
                    edges.due(what, x.lottery(0, DAY), fits ? 1 : 0);
                    edges.due(what + ", state", x.application(made, 4), fits ? Edges.WON : Edges.LOST);
                    edges.due(what + ", paid", x.application(made, 5), fits ? 100 * party : 0);
                }
            }
        }
    }

    private static void doesNotFit() {
        ClimbPermits x = Edges.office(3, 0, 3);
        x.apply(0, 0, DAY, 2);
        x.apply(1, 0, DAY, 2);
        x.apply(2, 0, DAY, 1);
        // 6 mod 3 = 0 draws the first, 524 mod 2 = 0 the second, which does not fit; the third still does.
        edges.due("two permits", draw(x, 6), 2);
        states("one behind a greater party", x, 0, Edges.WON, Edges.LOST, Edges.WON);
        ClimbPermits none = Edges.office(3, 0, 1);
        none.apply(0, 0, DAY, 4);
        edges.due("a party above the limit", none.lottery(0, DAY), 0);
        states("it", none, 0, Edges.LOST);
    }

    private static void notLeft() {
        for (int seed = 0; seed < 200; seed++) {
            ClimbPermits x = Edges.office(12, 0, 12);
            allApply(x, 1);
            x.set(Edges.SEED, seed);
            edges.due("all twelve are drawn once", x.lottery(0, DAY), 12);
            edges.due("all places", x.onRoute(0, DAY, 2), 12);
            edges.due("paid once for each", x.count(11), 1200);
        }
    }

    private static void memories() {
        ClimbPermits x = withMemories(3, 3, 0, 0);
        x.route(1, 0);
        int first = x.count(3);
        x.apply(0, 0, DAY, 1);
        x.apply(1, 0, DAY, 1);
        x.apply(2, 0, DAY, 1);
        edges.due("the second one wins", draw(x, 4), 1);
        states("behind it", x, first, Edges.LOST, Edges.WON, Edges.LOST);
        edges.due("one more", x.climber(0, 0), 4);
        edges.due("0 of 3", x.climber(1, 0), 0);
        edges.due("the first one that was lost", x.climber(2, 0), 1);
        edges.due("not in it", x.climber(3, 0), 0);
        Edges.won(x, 2, 1, DAY, 1);
        edges.due("0 of 1", x.climber(2, 0), 0);
        Edges.won(x, 3, 1, DAY + 1, 1);
        edges.due("0 of 0", x.climber(3, 0), 0);
    }

    private static void memoryOfBarred() {
        ClimbPermits x = Edges.office(4, 3, 2);
        x.apply(0, 0, 20, 1);
        x.apply(1, 0, 20, 1);
        x.apply(0, 0, 21, 1);
        Edges.bar(x, 0, 0, 20);
        Edges.lose(x, 0, 0, 30, 2);
        edges.due("the other one", x.lottery(0, 20), 1);
        states("behind it", x, 0, Edges.LOST, Edges.WON);
        edges.due("the memory of the barred one", x.climber(0, 0), 2);
        edges.due("on the next day it is in it", x.lottery(0, 21), 1);
        edges.due("and has no memory", x.climber(0, 0), 0);
    }

    private static void belowZero() {
        ClimbPermits x = Edges.office(4, 0, 4);
        Edges.won(x, 0, 0, DAY, 4);
        for (int buffer = 0; buffer <= 4; buffer += 2) {
            x.buffer(0, buffer);
            edges.due("0 at least", x.onRoute(0, DAY, 3), 0);
            int seed = x.count(20);
            int made = x.apply(1 + buffer / 2, 0, DAY, 1);
            edges.due("no permit with " + -buffer, x.lottery(0, DAY), 0);
            states("with " + -buffer, x, made, Edges.LOST);
            edges.due("drawn all the same", x.count(20), Edges.seedBehind(seed));
            edges.due("the memory", x.climber(1 + buffer / 2, 0), 1);
        }
        edges.due("one place more is not enough", x.nextWaiting(0, DAY), Edges.NONE);
        x.cancel(0);
        edges.due("nobody is served beside such a buffer", x.onRoute(0, DAY, 2), 0);
    }
}
