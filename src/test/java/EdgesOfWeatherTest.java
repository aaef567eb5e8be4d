/** The edges in "Weather, cancelling, waiting" of the document. */
public final class EdgesOfWeatherTest {
    private static final Edges edges = new Edges();

    private EdgesOfWeatherTest() {
    }

    public static void main(String[] args) {
        test("When a day is closed, its permits, of all routes, in ascending order, move:", EdgesOfWeatherTest::allMove);
        test("to the first later day,", EdgesOfWeatherTest::firstLaterDay);
        test("at most SHIFT days later", EdgesOfWeatherTest::atMostShift);
        test("and at most the day 59,", EdgesOfWeatherTest::atMostLastDay);
        test("that is not closed", EdgesOfWeatherTest::notToClosed);
        test("and on which the party fits into the limit minus the places taken (also into the buffer);",
                EdgesOfWeatherTest::whereItFits);
        test("its application has this day then, and its climbers are not there any more.", EdgesOfWeatherTest::hasThisDay);
        test("If there is none, it becomes REFUNDED, all that was paid is refunded, and the memory of its climber increases by 2.",
                EdgesOfWeatherTest::refunded);
        test("Applications of the day that are APPLIED become LOST; memories stay. When a permit is cancelled",
                EdgesOfWeatherTest::appliedOfClosedDay);
        test("of what was paid is refunded: all, if its day, as it is now, is at least 7 days from today;",
                EdgesOfWeatherTest::refundOfAll);
        test("half (rounded down), if at least 3 days;", EdgesOfWeatherTest::refundOfHalf);
        test("otherwise nothing.", EdgesOfWeatherTest::refundOfNothing);
        test("Then the waiting list of its route and day goes on, if the day is not closed:", EdgesOfWeatherTest::waitingListGoesOn);
        test("of those applications that are LOST,", EdgesOfWeatherTest::onlyLost);
        test("whose party fits into the limit minus the buffer minus the places taken,", EdgesOfWeatherTest::waitingFits);
        test("and whose climber is not barred then,", EdgesOfWeatherTest::waitingBarred);
        test("the one with the greatest memory of its climber, of several the lowest one, gets a permit;",
                EdgesOfWeatherTest::greatestMemory);
        test("its climber's memory becomes 0;", EdgesOfWeatherTest::memoryOfServed);
        test("and so on, until there is none.", EdgesOfWeatherTest::andSoOn);
        test("When today ends, its permits become USED, if the climbers were there, and NOT_USED if not;",
                EdgesOfWeatherTest::usedOrNot);
        test("for each one that is NOT_USED, in ascending order, its climber gets a strike (one for each permit);",
                EdgesOfWeatherTest::strikeForEach);
        test("if the climber has STRIKES strikes (or more) behind this, the strikes become 0,", EdgesOfWeatherTest::strikesOrMore);
        test("and the climber is barred up to the day today + BAR, by the day that ends", EdgesOfWeatherTest::barredByDayThatEnds);
        test("(or longer, if that was so before).", EdgesOfWeatherTest::orLonger);
        test("Applications of the day that are APPLIED become LOST; memories stay. Then today", EdgesOfWeatherTest::appliedOfToday);
        test("Then today is the next day.", EdgesOfWeatherTest::nextDay);
        test("(Permits of a closed day: there are none.)", EdgesOfWeatherTest::noneOfClosedDay);
        edges.close();
    }

    private static void test(String sentence, Runnable test) {
        edges.test("Terms", sentence, test);
    }

    private static void onDay(String what, ClimbPermits x, int application, int day, int state) {
        edges.due(what + ", day", x.application(application, 2), day);
        edges.due(what + ", state", x.application(application, 4), state);
    }

    // ---- closing

    private static void allMove() {
        ClimbPermits x = Edges.office(1, 0, 3);
        for (int route = 1; route < 6; route++) {
            x.route(1, 0);
        }
        for (int route = 0; route < 6; route++) {
            Edges.won(x, route % 3, route, 5, 1);
        }
        Edges.won(x, 0, 0, 4, 1);
        edges.due("permits of six routes", x.close(5), 6);
        for (int i = 0; i < 6; i++) {
            onDay("route " + i, x, i, 6, Edges.WON);
        }
        onDay("of the day before", x, 6, 4, Edges.WON);

        ClimbPermits order = Edges.office(3, 0, 3);
        Edges.won(order, 2, 0, 5, 1);
        Edges.won(order, 1, 0, 5, 1);
        Edges.won(order, 0, 0, 5, 1);
        order.apply(0, 0, 6, 2);
        order.lottery(0, 6);
        edges.due("three of the same day", order.close(5), 3);
        onDay("the lowest has the last place", order, 0, 6, Edges.WON);
        onDay("the next one goes on", order, 1, 7, Edges.WON);
        onDay("the last one, too", order, 2, 7, Edges.WON);
        order.set(Edges.SHIFT, 1);
        order.close(8);
        edges.due("nowhere to", order.close(7), 0);

        ClimbPermits forty = Edges.office(12, 0, 12);
        for (int i = 0; i < 28; i++) {
            forty.apply(0, 0, 20 + i, 1);
        }
        for (int climber = 0; climber < 12; climber++) {
            Edges.won(forty, climber, 0, 5, 1);
        }
        edges.due("the last twelve of forty applications", forty.close(5), 12);
        onDay("the last one", forty, 39, 6, Edges.WON);
    }

    private static void firstLaterDay() {
        ClimbPermits x = Edges.office(1, 0, 3);
        Edges.won(x, 0, 0, 5, 1);
        edges.due("the next day", x.close(5), 1);
        onDay("it", x, 0, 6, Edges.WON);
        Edges.won(x, 1, 0, 7, 1);
        edges.due("behind a full one, and not back", x.close(6), 1);
        onDay("it", x, 0, 8, Edges.WON);
        onDay("the other one", x, 1, 7, Edges.WON);

        ClimbPermits today = Edges.office(1, 0, 1);
        today.end();
        Edges.won(today, 0, 0, 1, 1);
        edges.due("of today to tomorrow", today.close(1), 1);
        onDay("it", today, 0, 2, Edges.WON);
    }

    /** A permit of a day, of which some days behind it are full. */
    private static ClimbPermits fullBehind(int day, int days) {
        ClimbPermits x = Edges.office(1, 0, 2);
        Edges.won(x, 0, 0, day, 1);
        for (int i = 1; i <= days; i++) {
            Edges.won(x, 1, 0, day + i, 1);
        }
        return x;
    }

    private static void atMostShift() {
        for (int shift = 0; shift <= 4; shift++) {
            ClimbPermits fits = fullBehind(10, Math.max(0, shift - 1));
            fits.set(Edges.SHIFT, shift);
            edges.due(shift + " days later", fits.close(10), shift > 0 ? 1 : 0);
            onDay("it", fits, 0, 10 + shift, shift > 0 ? Edges.WON : Edges.REFUNDED);
            ClimbPermits full = fullBehind(10, shift);
            full.set(Edges.SHIFT, shift);
            edges.due("not " + (shift + 1) + " days later", full.close(10), 0);
            onDay("it", full, 0, 10, Edges.REFUNDED);
        }
        ClimbPermits again = fullBehind(10, 0);
        again.set(Edges.SHIFT, 1);
        for (int day = 10; day < 20; day++) {
            edges.due("from the day that it has now: " + day, again.close(day), 1);
        }
        onDay("it", again, 0, 20, Edges.WON);
    }

    private static void atMostLastDay() {
        for (int day = 57; day <= 59; day++) {
            ClimbPermits x = fullBehind(day, Math.max(0, 58 - day));
            x.set(Edges.SHIFT, 10);
            edges.due("from " + day, x.close(day), day < 59 ? 1 : 0);
            onDay("from " + day, x, 0, 59, day < 59 ? Edges.WON : Edges.REFUNDED);
            ClimbPermits full = fullBehind(day, 59 - day);
            full.set(Edges.SHIFT, 10);
            edges.due("from " + day + ", all full", full.close(day), 0);
            onDay("from " + day + ", all full", full, 0, day, Edges.REFUNDED);
        }
    }

    private static void notToClosed() {
        ClimbPermits x = fullBehind(10, 0);
        x.close(11);
        x.close(12);
        edges.due("behind two closed days", x.close(10), 1);
        onDay("it", x, 0, 13, Edges.WON);
        ClimbPermits all = fullBehind(10, 0);
        all.close(11);
        all.close(12);
        all.close(13);
        edges.due("all are closed", all.close(10), 0);
        onDay("it", all, 0, 10, Edges.REFUNDED);
        ClimbPermits last = fullBehind(58, 0);
        last.close(59);
        edges.due("the last day is closed", last.close(58), 0);
        onDay("it", last, 0, 58, Edges.REFUNDED);
    }

    private static void whereItFits() {
        for (int party = 1; party <= 4; party++) {
            for (int taken = 0; taken <= 4; taken++) {
                ClimbPermits x = Edges.office(5, 0, 2);
                Edges.won(x, 0, 0, 10, party);
                if (taken > 0) {
                    Edges.won(x, 1, 0, 11, taken);
                }
                x.buffer(0, 5);
                boolean fits = party + taken <= 5;
                String what = party + " to " + taken + " of 5, all of them buffer";
                edges.due(what, x.close(10), 1);
                onDay(what, x, 0, fits ? 11 : 12, Edges.WON);
            }
        }
        ClimbPermits used = Edges.office(2, 0, 2);
        Edges.won(used, 0, 0, 1, 2);
        used.apply(1, 0, 2, 2);
        used.cancel(1);
        used.apply(1, 0, 2, 2);
        edges.due("one that is APPLIED and one that is CANCELLED have no places", used.close(1), 1);
        onDay("it", used, 0, 2, Edges.WON);
        edges.due("the places are taken now", used.lottery(0, 2), 0);
    }

    private static void hasThisDay() {
        ClimbPermits x = Edges.office(2, 0, 2);
        Edges.won(x, 0, 0, 0, 1);
        Edges.won(x, 1, 0, 0, 1);
        x.show(0);
        edges.due("there", x.application(0, 7), 1);
        edges.due("close", x.close(0), 2);
        onDay("told to be there", x, 0, 1, Edges.WON);
        edges.due("not there any more", x.application(0, 7), 0);
        edges.due("not there before either", x.application(1, 7), 0);
        edges.due("the day for which it was made", x.application(0, 8), 0);
        edges.due("no place of the closed day", x.onRoute(0, 0, 2), 0);
        edges.due("places of the next day", x.onRoute(0, 1, 2), 2);
        edges.due("nothing is refunded", x.count(12), 0);
        edges.due("memory stays", x.climber(0, 0), 0);
        edges.due("none of today", x.end(), 0);
        edges.due("to be told again", x.show(0), 1);
        edges.due("the other one is not used", x.end(), 1);
        onDay("used", x, 0, 1, Edges.USED);
        onDay("not used", x, 1, 1, Edges.NOT_USED);
    }

    private static void refunded() {
        ClimbPermits x = Edges.office(4, 0, 2);
        x.set(Edges.SHIFT, 0);
        x.set(Edges.FEE, 33);
        Edges.won(x, 0, 0, 0, 3);
        Edges.won(x, 0, 0, 1, 1);
        Edges.won(x, 1, 0, 1, 2);
        x.set(Edges.FEE, 1000);
        edges.due("of today", x.close(0), 0);
        onDay("it", x, 0, 0, Edges.REFUNDED);
        edges.due("all that was paid", x.application(0, 6), 99);
        edges.due("paid stays", x.application(0, 5), 99);
        edges.due("memory", x.climber(0, 0), 2);
        edges.due("memory of the other one", x.climber(1, 0), 0);
        edges.due("of tomorrow", x.close(1), 0);
        edges.due("memory of both", x.climber(0, 0) * 10 + x.climber(1, 0), 42);
        edges.due("refunded in all", x.count(12), 99 + 33 + 66);

        ClimbPermits twice = Edges.office(4, 0, 1);
        twice.route(4, 0);
        twice.set(Edges.SHIFT, 0);
        Edges.won(twice, 0, 0, 5, 1);
        Edges.won(twice, 0, 1, 5, 1);
        edges.due("two of one climber", twice.close(5), 0);
        edges.due("2 for each", twice.climber(0, 0), 4);
    }

    private static void appliedOfClosedDay() {
        ClimbPermits x = Edges.office(4, 0, 3);
        x.route(1, 0);
        Edges.lose(x, 2, 1, 30, 2);
        x.apply(0, 0, 5, 1);
        x.apply(1, 1, 5, 2);
        x.apply(2, 0, 5, 1);
        x.apply(0, 0, 4, 1);
        x.apply(0, 0, 6, 1);
        int seed = x.count(20);
        edges.due("no permits", x.close(5), 0);
        int[] states = {Edges.LOST, Edges.LOST, Edges.LOST, Edges.APPLIED, Edges.APPLIED};
        for (int i = 0; i < states.length; i++) {
            edges.due("state " + i, x.application(2 + i, 4), states[i]);
        }
        edges.due("memory of 0", x.climber(0, 0), 0);
        edges.due("memory of 2", x.climber(2, 0), 2);
        edges.due("no draw", x.count(20), seed);
        edges.due("one that is LOST can be cancelled", x.cancel(2), 0);
        onDay("it", x, 2, 5, Edges.CANCELLED);
    }

    // ---- cancelling

    /** What is refunded for a permit of 99 some days before its day. */
    private static int refund(int today, int daysAhead) {
        ClimbPermits x = Edges.office(1, 0, 1);
        x.set(Edges.FEE, 99);
        Edges.won(x, 0, 0, today + daysAhead, 1);
        Edges.endDays(x, today);
        int back = x.cancel(0);
        edges.due("refunded " + daysAhead + " days ahead", x.application(0, 6), back);
        edges.due("paid stays", x.application(0, 5), 99);
        return back;
    }

    private static void refundOfAll() {
        for (int today = 0; today <= 50; today += 25) {
            edges.due("6 days from " + today, refund(today, 6), 49);
            edges.due("7 days from " + today, refund(today, 7), 99);
            edges.due("8 days from " + today, refund(today, 8), 99);
        }
        edges.due("59 days", refund(0, 59), 99);
        ClimbPermits moved = Edges.office(1, 0, 1);
        Edges.won(moved, 0, 0, 6, 1);
        moved.close(6);
        edges.due("its day as it is now", moved.cancel(0), 100);
        ClimbPermits later = Edges.office(1, 0, 1);
        Edges.won(later, 0, 0, 7, 1);
        later.end();
        edges.due("from today as it is now", later.cancel(0), 50);
    }

    private static void refundOfHalf() {
        edges.due("2 days", refund(0, 2), 0);
        edges.due("3 days", refund(0, 3), 49);
        edges.due("4 days", refund(0, 4), 49);
        edges.due("6 days", refund(0, 6), 49);
        edges.due("3 days from the day 56", refund(56, 3), 49);
        ClimbPermits moved = Edges.office(1, 0, 1);
        Edges.won(moved, 0, 0, 2, 1);
        moved.close(2);
        edges.due("its day as it is now", moved.cancel(0), 50);
    }

    private static void refundOfNothing() {
        for (int days = 0; days <= 2; days++) {
            edges.due(days + " days", refund(0, days), 0);
            edges.due(days + " days to the last one", refund(59 - days, days), 0);
        }
        ClimbPermits shown = Edges.office(1, 0, 1);
        Edges.won(shown, 0, 0, 0, 1);
        shown.show(0);
        edges.due("one that was there", shown.cancel(0), 0);
    }

    // ---- waiting

    private static void waitingListGoesOn() {
        ClimbPermits x = Edges.office(2, 0, 4);
        x.route(2, 0);
        Edges.won(x, 0, 0, 5, 2);
        Edges.lost(x, 1, 0, 5, 1);
        Edges.won(x, 0, 0, 6, 2);
        Edges.lost(x, 2, 0, 6, 1);
        Edges.won(x, 0, 1, 5, 2);
        Edges.lost(x, 3, 1, 5, 1);
        edges.due("cancelled", x.cancel(0), 100);
        onDay("of its route and day", x, 1, 5, Edges.WON);
        onDay("of another day", x, 3, 6, Edges.LOST);
        onDay("of another route", x, 5, 5, Edges.LOST);

        ClimbPermits first = Edges.office(2, 2, 2);
        Edges.lost(first, 0, 0, 5, 1);
        first.buffer(0, 0);
        Edges.won(first, 1, 0, 5, 2);
        first.cancel(1);
        onDay("the application 0 waits, too", first, 0, 5, Edges.WON);

        ClimbPermits moved = Edges.office(1, 0, 3);
        Edges.won(moved, 0, 0, 5, 1);
        Edges.lost(moved, 1, 0, 5, 1);
        Edges.lost(moved, 2, 0, 6, 4);
        moved.cancel(2);
        moved.close(5);
        moved.apply(2, 0, 6, 1);
        moved.lottery(0, 6);
        onDay("full by the one that moved", moved, 3, 6, Edges.LOST);
        edges.due("cancelled on the day that it has now", moved.cancel(0), 50);
        onDay("the one of that day", moved, 3, 6, Edges.WON);
        onDay("the one of the closed day", moved, 1, 5, Edges.LOST);
    }

    private static void onlyLost() {
        ClimbPermits x = Edges.office(4, 0, 4);
        Edges.won(x, 0, 0, 5, 4);
        Edges.lost(x, 1, 0, 5, 1);
        Edges.lost(x, 2, 0, 5, 1);
        x.cancel(2);
        x.apply(3, 0, 5, 1);
        edges.due("cancelled", x.cancel(0), 200);
        int[] states = {Edges.CANCELLED, Edges.WON, Edges.CANCELLED, Edges.APPLIED};
        for (int i = 0; i < states.length; i++) {
            edges.due("state " + i, x.application(i, 4), states[i]);
        }

        ClimbPermits free = Edges.office(4, 4, 3);
        Edges.lost(free, 0, 0, 5, 1);
        Edges.lost(free, 1, 0, 5, 1);
        free.buffer(0, 0);
        free.apply(2, 0, 5, 1);
        edges.due("one that is LOST is cancelled", free.cancel(0), 0);
        edges.due("one that is APPLIED is cancelled", free.cancel(2), 0);
        onDay("nobody is served by that", free, 1, 5, Edges.LOST);
    }

    private static void waitingFits() {
        for (int buffer = 0; buffer <= 4; buffer++) {
            for (int party = 1; party <= 4; party++) {
                ClimbPermits x = Edges.office(6, 0, 3);
                Edges.won(x, 0, 0, 5, 4);
                Edges.won(x, 1, 0, 5, 2);
                Edges.lost(x, 2, 0, 5, party);
                x.buffer(0, buffer);
                x.cancel(0);
                boolean fits = party <= 6 - buffer - 2;
                onDay(party + " into 6 - " + buffer + " - 2", x, 2, 5, fits ? Edges.WON : Edges.LOST);
            }
        }
        ClimbPermits below = Edges.office(6, 0, 3);
        Edges.won(below, 0, 0, 5, 1);
        Edges.won(below, 1, 0, 5, 4);
        below.buffer(0, 6);
        Edges.lost(below, 2, 0, 5, 1);
        below.cancel(0);
        onDay("what is left is below 0", below, 2, 5, Edges.LOST);
        below.buffer(0, 2);
        below.apply(0, 0, 5, 1);
        below.cancel(1);
        onDay("then it fits", below, 2, 5, Edges.WON);
    }

    private static void waitingBarred() {
        for (int upTo = 9; upTo <= 11; upTo++) {
            ClimbPermits x = Edges.office(1, 0, 3);
            Edges.won(x, 0, 0, 10, 1);
            Edges.lost(x, 1, 0, 10, 1);
            Edges.lost(x, 2, 0, 10, 1);
            Edges.bar(x, 1, 0, upTo);
            Edges.lose(x, 1, 0, 30, 2);
            edges.due("who would be served", x.nextWaiting(0, 10), upTo < 10 ? 1 : 2);
            x.cancel(0);
            onDay("barred up to " + upTo, x, 1, 10, upTo < 10 ? Edges.WON : Edges.LOST);
            onDay("the other one behind a bar up to " + upTo, x, 2, 10, upTo < 10 ? Edges.LOST : Edges.WON);
        }
    }

    /** A full day for which three climbers wait, with memories; the permit is then cancelled. */
    private static ClimbPermits threeWait(int first, int second, int third) {
        ClimbPermits x = Edges.office(1, 0, 4);
        Edges.won(x, 3, 0, 5, 1);
        int[] memories = {first, second, third};
        for (int climber = 0; climber < 3; climber++) {
            Edges.lost(x, climber, 0, 5, 1);
            Edges.lose(x, climber, 0, 10 + 10 * climber, memories[climber] - 1);
        }
        return x;
    }

    private static void greatestMemory() {
        int[][] memories = {{1, 1, 1}, {1, 2, 1}, {1, 1, 2}, {2, 1, 2}, {1, 2, 2}, {3, 2, 1}, {1, 2, 3}, {2, 3, 3}};
        int[] served = {0, 1, 2, 0, 1, 0, 2, 1};
        for (int i = 0; i < memories.length; i++) {
            ClimbPermits x = threeWait(memories[i][0], memories[i][1], memories[i][2]);
            x.cancel(0);
            int permits = 0;
            for (int application = 1; application < x.count(3); application++) {
                permits += x.application(application, 4) == Edges.WON ? x.application(application, 0) + 1 : 0;
            }
            edges.due("who is served of the memories " + i, permits - 1, served[i]);
        }
        ClimbPermits zero = Edges.office(1, 0, 3);
        Edges.won(zero, 0, 0, 5, 1);
        zero.apply(1, 0, 20, 1);
        Edges.lost(zero, 1, 0, 5, 1);
        Edges.won(zero, 1, 0, 21, 1);
        edges.due("no memory", zero.climber(1, 0), 0);
        zero.cancel(0);
        onDay("is served, too", zero, 2, 5, Edges.WON);
    }

    private static void memoryOfServed() {
        ClimbPermits x = threeWait(4, 3, 2);
        edges.due("before", x.climber(0, 0), 4);
        x.cancel(0);
        edges.due("of the one who is served", x.climber(0, 0), 0);
        edges.due("of the second one", x.climber(1, 0), 3);
        edges.due("of the third one", x.climber(2, 0), 2);
        edges.due("of the one who cancelled", x.climber(3, 0), 0);
    }

    private static void andSoOn() {
        ClimbPermits x = Edges.office(4, 0, 6);
        Edges.won(x, 0, 0, 5, 4);
        int[] parties = {2, 3, 1, 1, 1};
        for (int i = 0; i < parties.length; i++) {
            Edges.lost(x, i + 1, 0, 5, parties[i]);
        }
        x.cancel(0);
        int[] states = {Edges.WON, Edges.LOST, Edges.WON, Edges.WON, Edges.LOST};
        for (int i = 0; i < parties.length; i++) {
            onDay("the application " + (i + 1), x, i + 1, 5, states[i]);
        }
        edges.due("all places", x.onRoute(0, 5, 2), 4);
        edges.due("those who wait on", x.onRoute(0, 5, 5), 2);
        ClimbPermits twelve = Edges.office(12, 0, 12);
        for (int i = 0; i < 3; i++) {
            Edges.won(twelve, i, 0, 5, 4);
        }
        for (int i = 3; i < 12; i++) {
            Edges.lost(twelve, i, 0, 5, 1);
        }
        for (int i = 0; i < 3; i++) {
            twelve.cancel(i);
            edges.due("served behind " + (i + 1) + " of them", twelve.count(5), Math.min(9, 4 * i + 4) + 2 - i);
        }
        edges.due("nobody waits any more", twelve.count(6), 0);
        edges.due("places are left", twelve.onRoute(0, 5, 3), 3);
    }

    // ---- the end of a day

    private static void usedOrNot() {
        ClimbPermits x = Edges.office(4, 0, 4);
        for (int climber = 0; climber < 4; climber++) {
            Edges.won(x, climber, 0, 0, 1);
        }
        Edges.won(x, 0, 0, 1, 1);
        x.show(1);
        x.show(2);
        x.cancel(2);
        edges.due("not used", x.end(), 2);
        int[] states = {Edges.NOT_USED, Edges.USED, Edges.CANCELLED, Edges.NOT_USED, Edges.WON};
        for (int i = 0; i < states.length; i++) {
            edges.due("state " + i, x.application(i, 4), states[i]);
        }
        edges.due("the next day, too", x.end(), 1);
        edges.due("none of it", x.end(), 0);
    }

    private static void strikeForEach() {
        ClimbPermits x = Edges.office(4, 0, 2);
        x.set(Edges.STRIKES, 5);
        for (int route = 1; route < 6; route++) {
            x.route(4, 0);
        }
        for (int route = 0; route < 6; route++) {
            Edges.won(x, 0, route, 0, 4);
        }
        x.show(5);
        edges.due("five not used", x.end(), 5);
        edges.due("five strikes", x.climber(0, 1), 0);
        edges.due("a bar", x.climber(0, 2), 10);
        edges.due("no strike for the other one", x.climber(1, 1), 0);

        // Six strikes with a bar at four: two are left; at five: one.
        for (int strikes = 4; strikes <= 5; strikes++) {
            ClimbPermits six = Edges.office(4, 0, 1);
            six.set(Edges.STRIKES, strikes);
            Edges.won(six, 0, 0, 0, 1);
            for (int route = 1; route < 6; route++) {
                six.route(4, 0);
                Edges.won(six, 0, route, 0, 1);
            }
            edges.due("six not used", six.end(), 6);
            edges.due("strikes behind the bar at " + strikes, six.climber(0, 1), 6 - strikes);
        }
    }

    private static void strikesOrMore() {
        ClimbPermits x = Edges.office(1, 0, 1);
        x.set(Edges.STRIKES, 5);
        for (int day = 0; day < 4; day++) {
            Edges.won(x, 0, 0, day, 1);
            x.end();
            edges.due("strikes behind the day " + day, x.climber(0, 1), day + 1);
            edges.due("not barred behind the day " + day, x.climber(0, 2), Edges.NONE);
        }
        x.save(0);
        for (int strikes = 1; strikes <= 5; strikes++) {
            x.restore(0);
            x.set(Edges.STRIKES, strikes);
            edges.due("not by the setting alone", x.climber(0, 1), 4);
            x.end();
            edges.due("not without another strike", x.climber(0, 1), 4);
            Edges.won(x, 0, 0, 5, 1);
            x.end();
            edges.due("five strikes with " + strikes, x.climber(0, 1), 0);
            edges.due("barred with " + strikes, x.climber(0, 2), 15);
        }
    }

    private static void barredByDayThatEnds() {
        int[] days = {0, 5, 58};
        int[] bars = {0, 10, 30};
        for (int i = 0; i < days.length; i++) {
            for (int bar : bars) {
                ClimbPermits x = Edges.office(1, 0, 1);
                x.set(Edges.STRIKES, 1);
                Edges.won(x, 0, 0, days[i], 1);
                Edges.endDays(x, days[i]);
                x.set(Edges.BAR, bar);
                edges.due("not barred yet", x.climber(0, 2), Edges.NONE);
                edges.due("not used", x.end(), 1);
                edges.due("the day " + days[i] + " and " + bar, x.climber(0, 2), days[i] + bar);
                boolean barred = bar > 0;
                edges.due("apply for the next day", x.apply(0, 0, days[i] + 1, 1), barred ? Edges.NOT_POSSIBLE : 1);
            }
        }
    }

    private static void orLonger() {
        int[] bars = {0, 1, 8, 9, 10, 11};
        int[] due = {10, 10, 10, 10, 11, 12};
        for (int i = 0; i < bars.length; i++) {
            ClimbPermits x = Edges.office(1, 0, 1);
            Edges.won(x, 0, 0, 1, 1);
            Edges.bar(x, 0, 0, 10);
            x.set(Edges.BAR, bars[i]);
            edges.due("not used", x.end(), 1);
            edges.due("barred up to 10, then 1 + " + bars[i], x.climber(0, 2), due[i]);
        }
    }

    private static void appliedOfToday() {
        ClimbPermits x = Edges.office(1, 0, 2);
        x.route(1, 0);
        Edges.lose(x, 0, 0, 30, 2);
        x.apply(0, 0, 0, 1);
        x.apply(1, 1, 0, 1);
        x.apply(1, 1, 1, 1);
        int seed = x.count(20);
        edges.due("no permits", x.end(), 0);
        int[] states = {Edges.LOST, Edges.LOST, Edges.APPLIED};
        for (int i = 0; i < states.length; i++) {
            edges.due("state " + i, x.application(2 + i, 4), states[i]);
        }
        edges.due("memory of 0", x.climber(0, 0), 2);
        edges.due("memory of 1", x.climber(1, 0), 0);
        edges.due("no strike", x.climber(1, 1), 0);
        edges.due("no draw", x.count(20), seed);
    }

    private static void nextDay() {
        ClimbPermits x = new ClimbPermits();
        x.close(1);
        for (int day = 0; day < 59; day++) {
            edges.due("today", x.count(0), day);
            edges.due("end of the day " + day, x.end(), 0);
        }
        edges.due("today", x.count(0), 59);
        edges.due("there is no next day", x.end(), Edges.NOT_POSSIBLE);
        edges.due("today still", x.count(0), 59);
        edges.due("a day that was closed stays so", x.count(13), 1);
    }

    private static void noneOfClosedDay() {
        ClimbPermits x = Edges.office(2, 1, 3);
        Edges.won(x, 0, 0, 0, 1);
        Edges.lost(x, 1, 0, 0, 1);
        x.apply(2, 0, 0, 1);
        edges.due("close today", x.close(0), 1);
        edges.due("no places are taken", x.onRoute(0, 0, 2), 0);
        edges.due("none by standby", x.standby(1), Edges.NOT_POSSIBLE);
        edges.due("none by a lottery", x.lottery(0, 0), Edges.NOT_POSSIBLE);
        edges.due("none to be shown", x.show(0), Edges.NOT_POSSIBLE);
        edges.due("none by an application", x.apply(0, 0, 0, 1), Edges.NOT_POSSIBLE);
        edges.due("none that is not used", x.end(), 0);
        for (int climber = 0; climber < 3; climber++) {
            edges.due("strikes", x.climber(climber, 1), 0);
        }
        edges.due("those who wait on", x.count(6), 2);
    }
}
