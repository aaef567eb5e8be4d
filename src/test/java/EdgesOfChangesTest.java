/** The edges in the promises 1 to 12 of the document, which are about what changes an office. */
public final class EdgesOfChangesTest {
    private static final Edges edges = new Edges();
    private static final int[] FAR_FROM_SIX = {Edges.LOW, -1, 6, 7, Edges.HIGH};

    private EdgesOfChangesTest() {
    }

    public static void main(String[] args) {
        edges.test("Promise 1:", "Creates an office without routes, climbers and applications, on the day 0.",
                EdgesOfChangesTest::newOffice);
        routesAndClimbers();
        settings();
        apply();
        lotteryAndCancel();
        closeAndStandby();
        showAndEnd();
        edges.close();
    }

    private static void routesAndClimbers() {
        edges.test("Promise 2:", "`limit`: 1 to 12", EdgesOfChangesTest::routeLimit);
        edges.test("Promise 2:", "`buffer`: 0 to limit", EdgesOfChangesTest::routeBuffer);
        edges.test("Promise 2:", "Returns its number;", EdgesOfChangesTest::routeNumber);
        edges.test("Promise 2:", "BAD_VALUE if an argument is out of range;", EdgesOfChangesTest::routeBadValue);
        edges.test("Promise 2:", "TOO_MANY if there are 6 routes.", EdgesOfChangesTest::routeTooMany);
        edges.test("Promise 3:", "(Permits that were given stay.)", EdgesOfChangesTest::bufferPermitsStay);
        edges.test("Promise 3:", "`buffer`: 0 to the limit of the route", EdgesOfChangesTest::bufferRange);
        edges.test("Promise 3:", "Returns the previous buffer;", EdgesOfChangesTest::bufferPrevious);
        edges.test("Promise 3:", "NO_SUCH if there is no such route;", EdgesOfChangesTest::bufferNoSuch);
        edges.test("Promise 3:", "BAD_VALUE if buffer is out of range.", EdgesOfChangesTest::bufferBadValue);
        edges.test("Promise 4:", "Returns the number of the climber;", EdgesOfChangesTest::joinNumber);
        edges.test("Promise 4:", "TOO_MANY if there are 12 climbers.", EdgesOfChangesTest::joinTooMany);
    }

    private static void settings() {
        edges.test("Promise 5:", "Returns the previous value;", EdgesOfChangesTest::setPrevious);
        edges.test("Promise 5:", "BAD_VALUE if there is no such setting,", EdgesOfChangesTest::setNoSetting);
        edges.test("Promise 5:", "or the value is out of its range.", EdgesOfChangesTest::setBadValue);
    }

    private static void apply() {
        edges.test("Promise 6:", "`party`: 1 to 4", EdgesOfChangesTest::applyParty);
        edges.test("Promise 6:", "Returns the number of the application;", EdgesOfChangesTest::applyNumber);
        edges.test("Promise 6:", "NO_SUCH if there is no such climber, route or day;", EdgesOfChangesTest::applyNoSuch);
        edges.test("Promise 6:", "BAD_VALUE if party is out of range;", EdgesOfChangesTest::applyBadValue);
        edges.test("Promise 6:", "NOT_POSSIBLE if the day is before today,", EdgesOfChangesTest::applyBeforeToday);
        edges.test("Promise 6:", "or closed,", EdgesOfChangesTest::applyClosed);
        edges.test("Promise 6:", "or the climber has an application for this route and day that is APPLIED, WON or LOST,",
                EdgesOfChangesTest::applyAgain);
        edges.test("Promise 6:", "or is barred then;", EdgesOfChangesTest::applyBarred);
        edges.test("Promise 6:", "TOO_MANY if there are 40 applications.", EdgesOfChangesTest::applyTooMany);
    }

    private static void lotteryAndCancel() {
        edges.test("Promise 7:", "Returns the number of permits that were given;", EdgesOfChangesTest::lotteryNumber);
        edges.test("Promise 7:", "NO_SUCH if there is no such route or day;", EdgesOfChangesTest::lotteryNoSuch);
        edges.test("Promise 7:", "NOT_POSSIBLE if the day is before today, or closed, or there is no application that is APPLIED.",
                EdgesOfChangesTest::lotteryNotPossible);
        edges.test("Promise 8:", "Cancels an application; a permit with what is refunded, and with the waiting list going on.",
                EdgesOfChangesTest::cancelled);
        edges.test("Promise 8:", "Returns what is refunded (0 for one that is APPLIED or LOST);", EdgesOfChangesTest::cancelRefund);
        edges.test("Promise 8:", "NO_SUCH if there is no such application;", EdgesOfChangesTest::cancelNoSuch);
        edges.test("Promise 8:", "NOT_POSSIBLE if it is neither APPLIED nor WON nor LOST.", EdgesOfChangesTest::cancelNotPossible);
    }

    private static void closeAndStandby() {
        edges.test("Promise 9:", "Returns the number of permits that moved (without those that are REFUNDED);",
                EdgesOfChangesTest::closeNumber);
        edges.test("Promise 9:", "NO_SUCH if there is no such day;", EdgesOfChangesTest::closeNoSuch);
        edges.test("Promise 9:", "NOT_POSSIBLE if it is before today, or closed.", EdgesOfChangesTest::closeNotPossible);
        edges.test("Promise 10:", "Lets a climber who waits have a place of today that is free, also of the buffer:",
                EdgesOfChangesTest::standbyOfBuffer);
        edges.test("Promise 10:", "(The memory of its climber stays.)", EdgesOfChangesTest::standbyMemory);
        edges.test("Promise 10:", "Returns what was paid;", EdgesOfChangesTest::standbyPaid);
        edges.test("Promise 10:", "NO_SUCH if there is no such application;", EdgesOfChangesTest::standbyNoSuch);
        edges.test("Promise 10:", "NOT_POSSIBLE if it is not LOST,", EdgesOfChangesTest::standbyNotLost);
        edges.test("Promise 10:", "not of today,", EdgesOfChangesTest::standbyNotOfToday);
        edges.test("Promise 10:", "today is closed,", EdgesOfChangesTest::standbyClosed);
        edges.test("Promise 10:", "its climber is barred now,", EdgesOfChangesTest::standbyBarred);
        edges.test("Promise 10:", "or its party does not fit into the limit minus the places taken.",
                EdgesOfChangesTest::standbyDoesNotFit);
    }

    private static void showAndEnd() {
        edges.test("Promise 11:", "(it counts when today ends).", EdgesOfChangesTest::showCounts);
        edges.test("Promise 11:", "Returns 1;", EdgesOfChangesTest::showReturns);
        edges.test("Promise 11:", "NO_SUCH if there is no such application;", EdgesOfChangesTest::showNoSuch);
        edges.test("Promise 11:", "NOT_POSSIBLE if it is not WON,", EdgesOfChangesTest::showNotWon);
        edges.test("Promise 11:", "or not of today,", EdgesOfChangesTest::showNotOfToday);
        edges.test("Promise 11:", "or this was told already.", EdgesOfChangesTest::showTwice);
        edges.test("Promise 12:", "Returns the number of permits that were not used;", EdgesOfChangesTest::endNumber);
        edges.test("Promise 12:", "NOT_POSSIBLE if today is the day 59.", EdgesOfChangesTest::endNotPossible);
    }

    private static Edges.Story open(int limit, int buffer, int climbers) {
        return x -> Edges.open(x, limit, buffer, climbers);
    }

    // ---- 1 to 5

    private static void newOffice() {
        ClimbPermits x = new ClimbPermits();
        for (int what = 0; what <= 14; what++) {
            edges.due("count(" + what + ")", x.count(what), 0);
        }
        edges.due("no route", x.onRoute(0, 0, 0), Edges.NO_SUCH);
        edges.due("no route to change", x.buffer(0, 0), Edges.NO_SUCH);
        edges.due("no climber", x.climber(0, 0), Edges.NO_SUCH);
        edges.due("no application", x.application(0, 0), Edges.NO_SUCH);
        edges.due("nobody to apply", x.apply(0, 0, 0, 1), Edges.NO_SUCH);
        edges.due("no lottery", x.lottery(0, 0), Edges.NO_SUCH);
        edges.due("nobody waits", x.nextWaiting(0, 0), Edges.NO_SUCH);
        edges.due("no odds", x.odds(0), Edges.NO_SUCH);
        edges.due("no tries", x.tries(0, 1), Edges.NO_SUCH);
        edges.due("no slot is saved", x.restore(0), Edges.NOT_POSSIBLE);
        edges.due("nor the other one", x.restore(1), Edges.NOT_POSSIBLE);
        edges.due("no day is closed", x.close(59), 0);
        edges.due("the end of the day 0", x.end(), 0);
        edges.due("another object is new", new ClimbPermits().count(0), 0);
    }

    private static void routeLimit() {
        for (int limit = 1; limit <= 12; limit++) {
            ClimbPermits x = new ClimbPermits();
            edges.due("limit " + limit, x.route(limit, 0), 0);
            edges.due("told", x.onRoute(0, 0, 0), limit);
        }
        edges.due("limit 0", new ClimbPermits().route(0, 0), Edges.BAD_VALUE);
        edges.due("limit 13", new ClimbPermits().route(13, 0), Edges.BAD_VALUE);
    }

    private static void routeBuffer() {
        for (int limit = 1; limit <= 12; limit++) {
            for (int buffer = -1; buffer <= 13; buffer++) {
                boolean good = buffer >= 0 && buffer <= limit;
                ClimbPermits x = new ClimbPermits();
                edges.due("buffer " + buffer + " of " + limit, x.route(limit, buffer), good ? 0 : Edges.BAD_VALUE);
                edges.due("told", x.onRoute(0, 0, 1), good ? buffer : Edges.NO_SUCH);
            }
        }
    }

    private static void routeNumber() {
        ClimbPermits x = new ClimbPermits();
        for (int number = 0; number < 6; number++) {
            edges.due("refused ones have no number", x.route(0, 0), Edges.BAD_VALUE);
            edges.due("number", x.route(12 - number, number), number);
        }
        for (int number = 0; number < 6; number++) {
            edges.due("limit of " + number, x.onRoute(number, 0, 0), 12 - number);
            edges.due("buffer of " + number, x.onRoute(number, 0, 1), number);
        }
    }

    private static void routeBadValue() {
        int[][] bad = {{0, 0}, {-1, -1}, {13, 0}, {13, 13}, {Edges.LOW, 0}, {Edges.HIGH, 0}, {5, -1}, {5, 6}, {1, 2}, {12, 13},
            {5, Edges.LOW}, {5, Edges.HIGH}};
        for (int[] pair : bad) {
            edges.refused("limit " + pair[0] + ", buffer " + pair[1], Edges.BAD_VALUE, open(3, 1, 1), x -> x.route(pair[0], pair[1]));
        }
    }

    private static void sixRoutes(ClimbPermits x) {
        for (int i = 0; i < 6; i++) {
            x.route(2, 1);
        }
    }

    private static void routeTooMany() {
        edges.refused("the seventh", Edges.TOO_MANY, EdgesOfChangesTest::sixRoutes, x -> x.route(1, 0));
        edges.refused("the greatest", Edges.TOO_MANY, EdgesOfChangesTest::sixRoutes, x -> x.route(12, 12));
    }

    private static void bufferPermitsStay() {
        ClimbPermits x = Edges.office(4, 0, 3);
        Edges.won(x, 0, 0, 5, 3);
        Edges.won(x, 1, 0, 5, 1);
        x.buffer(0, 4);
        for (int i = 0; i < 2; i++) {
            edges.due("permit " + i, x.application(i, 4), Edges.WON);
        }
        edges.due("places taken", x.onRoute(0, 5, 2), 4);
        edges.due("paid", x.count(11), 400);
        edges.due("refunded", x.count(12), 0);
        edges.due("still to be cancelled", x.cancel(0), 150);
        ClimbPermits today = Edges.office(4, 0, 1);
        Edges.won(today, 0, 0, 0, 4);
        edges.due("beside permits of today", today.buffer(0, 4), 0);
        edges.due("it is as it was given", today.onRoute(0, 0, 1), 4);
        edges.due("their places", today.onRoute(0, 0, 2), 4);
        edges.due("used", today.show(0), 1);
    }

    private static void bufferRange() {
        for (int limit = 1; limit <= 12; limit++) {
            ClimbPermits x = Edges.office(limit, 0, 0);
            for (int buffer = 0; buffer <= limit; buffer++) {
                edges.due("buffer " + buffer + " of " + limit, x.buffer(0, buffer), Math.max(0, buffer - 1));
                edges.due("told", x.onRoute(0, 0, 1), buffer);
            }
            edges.due("above " + limit, x.buffer(0, limit + 1), Edges.BAD_VALUE);
            edges.due("below 0", x.buffer(0, -1), Edges.BAD_VALUE);
        }
        ClimbPermits two = Edges.office(3, 0, 0);
        two.route(7, 0);
        edges.due("the limit of another route", two.buffer(0, 7), Edges.BAD_VALUE);
        edges.due("its own", two.buffer(1, 7), 0);
    }

    private static void bufferPrevious() {
        ClimbPermits x = Edges.office(5, 2, 0);
        x.route(5, 4);
        edges.due("as the route was made", x.buffer(0, 5), 2);
        edges.due("the highest", x.buffer(0, 0), 5);
        edges.due("the lowest", x.buffer(0, 0), 0);
        edges.due("refused", x.buffer(0, 6), Edges.BAD_VALUE);
        edges.due("what was refused is none", x.buffer(0, 1), 0);
        edges.due("the other route", x.buffer(1, 1), 4);
    }

    private static void bufferNoSuch() {
        for (int route : new int[] {Edges.LOW, -1, 1, 2, 6, Edges.HIGH}) {
            edges.refused("route " + route, Edges.NO_SUCH, open(3, 1, 0), x -> x.buffer(route, 0));
        }
        for (int route : FAR_FROM_SIX) {
            edges.refused("route " + route + " of six", Edges.NO_SUCH, EdgesOfChangesTest::sixRoutes, x -> x.buffer(route, 0));
        }
    }

    private static void bufferBadValue() {
        for (int buffer : new int[] {Edges.LOW, -1, 4, 5, 12, 13, Edges.HIGH}) {
            edges.refused("buffer " + buffer, Edges.BAD_VALUE, open(3, 1, 0), x -> x.buffer(0, buffer));
        }
    }

    private static void joinNumber() {
        ClimbPermits x = new ClimbPermits();
        for (int number = 0; number < 12; number++) {
            edges.due("number", x.join(), number);
            edges.due("climbers", x.count(2), number + 1);
        }
    }

    private static void joinTooMany() {
        edges.refused("the thirteenth", Edges.TOO_MANY, open(3, 1, 12), x -> x.join());
        ClimbPermits x = Edges.office(3, 1, 12);
        edges.due("again", x.join() + x.join(), 2 * Edges.TOO_MANY);
        edges.due("the twelfth", x.climber(11, 6), 0);
        edges.due("no thirteenth", x.climber(12, 6), Edges.NO_SUCH);
    }

    private static void setPrevious() {
        int[] first = {100, 1, 2, 10, 3, 1};
        int[] lowest = {1, 0, 1, 0, 0, 0};
        int[] highest = {1000, 9, 5, 30, 10, 65535};
        ClimbPermits x = new ClimbPermits();
        for (int setting = 0; setting <= 5; setting++) {
            edges.due("first of " + setting, x.set(setting, highest[setting]), first[setting]);
        }
        for (int setting = 0; setting <= 5; setting++) {
            edges.due("highest of " + setting, x.set(setting, lowest[setting]), highest[setting]);
            edges.due("refused", x.set(setting, highest[setting] + 1), Edges.BAD_VALUE);
            edges.due("lowest of " + setting, x.set(setting, first[setting]), lowest[setting]);
            edges.due("the same again", x.set(setting, first[setting]), first[setting]);
        }
        Edges.open(x, 1, 0, 1);
        Edges.won(x, 0, 0, 5, 1);
        edges.due("SEED behind a draw", x.set(Edges.SEED, 0), 149);
    }

    private static void setNoSetting() {
        for (int setting : FAR_FROM_SIX) {
            edges.refused("setting " + setting, Edges.BAD_VALUE, open(3, 1, 1), x -> x.set(setting, 1));
        }
    }

    private static void setBadValue() {
        int[] below = {0, -1, 0, -1, -1, -1};
        int[] above = {1001, 10, 6, 31, 11, 65536};
        for (int i = 0; i <= 5; i++) {
            int setting = i;
            for (int value : new int[] {Edges.LOW, below[i], above[i], Edges.HIGH}) {
                edges.refused("setting " + i + ", value " + value, Edges.BAD_VALUE, open(3, 1, 1), x -> x.set(setting, value));
            }
        }
    }

    // ---- 6

    private static void applyParty() {
        ClimbPermits x = Edges.office(1, 0, 1);
        for (int party = 1; party <= 4; party++) {
            edges.due("a party of " + party + ", whether it can ever fit or not", x.apply(0, 0, party, party), party - 1);
            edges.due("told", x.application(party - 1, 3), party);
        }
        edges.due("0", x.apply(0, 0, 9, 0), Edges.BAD_VALUE);
        edges.due("5", x.apply(0, 0, 9, 5), Edges.BAD_VALUE);
    }

    private static void applyNumber() {
        ClimbPermits x = Edges.office(1, 0, 1);
        for (int number = 0; number < 40; number++) {
            edges.due("refused ones have no number", x.apply(0, 0, number, 5), Edges.BAD_VALUE);
            edges.due("number", x.apply(0, 0, number, 1), number);
            edges.due("applications", x.count(3), number + 1);
        }
    }

    private static void applyNoSuch() {
        for (int none : new int[] {Edges.LOW, -1, 2, 12, Edges.HIGH}) {
            edges.refused("climber " + none, Edges.NO_SUCH, open(3, 1, 2), x -> x.apply(none, 0, 5, 1));
            edges.refused("route " + none, Edges.NO_SUCH, open(3, 1, 2), x -> x.apply(0, none, 5, 1));
        }
        edges.refused("route 1", Edges.NO_SUCH, open(3, 1, 2), x -> x.apply(0, 1, 5, 1));
        for (int none : new int[] {Edges.LOW, -1, 60, Edges.HIGH}) {
            edges.refused("day " + none, Edges.NO_SUCH, open(3, 1, 2), x -> x.apply(0, 0, none, 1));
        }
        ClimbPermits x = Edges.office(3, 1, 2);
        edges.due("the last climber, route and day", x.apply(1, 0, 59, 1), 0);
        edges.due("the first ones", x.apply(0, 0, 0, 1), 1);
        edges.due("without climbers", Edges.office(1, 0, 0).apply(0, 0, 0, 1), Edges.NO_SUCH);
    }

    private static void applyBadValue() {
        for (int party : new int[] {Edges.LOW, -1, 0, 5, 6, Edges.HIGH}) {
            edges.refused("party " + party, Edges.BAD_VALUE, open(12, 1, 2), x -> x.apply(1, 0, 5, party));
        }
    }

    private static void applyBeforeToday() {
        Edges.Story dayThree = x -> {
            Edges.open(x, 3, 1, 1);
            Edges.endDays(x, 3);
        };
        for (int day = 0; day <= 2; day++) {
            int over = day;
            edges.refused("day " + day + " on the day 3", Edges.NOT_POSSIBLE, dayThree, x -> x.apply(0, 0, over, 1));
        }
        ClimbPermits x = Edges.told(dayThree);
        edges.due("today", x.apply(0, 0, 3, 1), 0);
        edges.due("tomorrow", x.apply(0, 0, 4, 1), 1);
    }

    private static void applyClosed() {
        Edges.Story closed = x -> {
            Edges.open(x, 3, 1, 1);
            x.close(0);
            x.close(5);
            x.close(59);
        };
        for (int day : new int[] {0, 5, 59}) {
            edges.refused("day " + day, Edges.NOT_POSSIBLE, closed, x -> x.apply(0, 0, day, 1));
        }
        ClimbPermits x = Edges.told(closed);
        int[] open = {1, 4, 6, 58};
        for (int i = 0; i < open.length; i++) {
            edges.due("day " + open[i], x.apply(0, 0, open[i], 1), i);
        }
    }

    /** The climber 0 has an application of the route 0 and the day 5 in a state that can be applied for again, or not. */
    private static Edges.Story inState(int state) {
        return x -> {
            Edges.open(x, 3, 0, 2);
            x.route(3, 0);
            x.apply(0, 0, 5, state == Edges.LOST ? 4 : 1);
            if (state == Edges.CANCELLED) {
                x.cancel(0);
            } else if (state != Edges.APPLIED) {
                x.lottery(0, 5);
            }
        };
    }

    private static void applyAgain() {
        for (int state = Edges.APPLIED; state <= Edges.LOST; state++) {
            edges.due("the state", Edges.told(inState(state)).application(0, 4), state);
            edges.refused("state " + state, Edges.NOT_POSSIBLE, inState(state), x -> x.apply(0, 0, 5, 1));
            ClimbPermits x = Edges.told(inState(state));
            edges.due("another route", x.apply(0, 1, 5, 1), 1);
            edges.due("another day", x.apply(0, 0, 6, 1), 2);
            edges.due("another climber", x.apply(1, 0, 5, 1), 3);
        }
        ClimbPermits cancelled = Edges.told(inState(Edges.CANCELLED));
        edges.due("behind a cancelled one", cancelled.apply(0, 0, 5, 1), 1);
        edges.due("and not behind the next one", cancelled.apply(0, 0, 5, 1), Edges.NOT_POSSIBLE);
        cancelled.cancel(1);
        edges.due("behind two", cancelled.apply(0, 0, 5, 1), 2);

        ClimbPermits moved = Edges.office(3, 0, 1);
        Edges.won(moved, 0, 0, 5, 1);
        moved.close(5);
        edges.due("a permit has another day now", moved.apply(0, 0, 6, 1), Edges.NOT_POSSIBLE);
        ClimbPermits before = Edges.office(3, 0, 1);
        Edges.won(before, 0, 0, 5, 1);
        before.apply(0, 0, 6, 1);
        edges.due("it moves to a day of which there is one", before.close(5), 1);
        edges.due("that one still has its lottery", before.lottery(0, 6), 1);
    }

    private static Edges.Story barredUpTo(int day) {
        return x -> {
            Edges.open(x, 3, 1, 2);
            Edges.bar(x, 0, 0, day);
        };
    }

    private static void applyBarred() {
        for (int day : new int[] {1, 2, 10}) {
            int barred = day;
            edges.refused("barred up to that day: " + day, Edges.NOT_POSSIBLE, barredUpTo(day), x -> x.apply(0, 0, barred, 1));
            ClimbPermits x = Edges.told(barredUpTo(day));
            edges.due("the day behind it", x.apply(0, 0, day + 1, 1), 1);
            edges.due("another climber", x.apply(1, 0, day, 1), 2);
        }
        edges.refused("barred up to a later one", Edges.NOT_POSSIBLE, barredUpTo(10), x -> x.apply(0, 0, 9, 1));
        edges.due("barred up to the day that ended", Edges.told(barredUpTo(0)).apply(0, 0, 1, 1), 1);
    }

    private static Edges.Story applications(int number) {
        return x -> {
            Edges.open(x, 3, 1, 2);
            for (int i = 0; i < number; i++) {
                x.apply(0, 0, i, 1);
            }
        };
    }

    private static void applyTooMany() {
        edges.refused("one behind forty", Edges.TOO_MANY, applications(40), x -> x.apply(1, 0, 5, 1));
        edges.due("one behind thirty-nine", Edges.told(applications(39)).apply(1, 0, 5, 1), 39);
        edges.refused("also if some are cancelled", Edges.TOO_MANY, x -> {
            applications(40).tell(x);
            x.cancel(39);
            x.cancel(0);
        }, x -> x.apply(1, 0, 5, 1));
    }

    // ---- 7, 8

    private static void lotteryNumber() {
        for (int limit = 1; limit <= 12; limit++) {
            ClimbPermits x = Edges.office(limit, 0, 12);
            for (int climber = 0; climber < 12; climber++) {
                x.apply(climber, 0, 5, 1);
            }
            edges.due("of twelve with " + limit + " places", x.lottery(0, 5), limit);
            edges.due("permits", x.count(5), limit);
            edges.due("those who wait", x.count(6), 12 - limit);
        }
        ClimbPermits none = Edges.office(3, 3, 1);
        none.apply(0, 0, 5, 1);
        edges.due("none", none.lottery(0, 5), 0);
        ClimbPermits parties = Edges.office(12, 0, 3);
        for (int climber = 0; climber < 3; climber++) {
            parties.apply(climber, 0, 5, 4);
        }
        edges.due("permits, not places", parties.lottery(0, 5), 3);
    }

    private static void lotteryNoSuch() {
        Edges.Story story = x -> {
            Edges.open(x, 3, 1, 1);
            x.apply(0, 0, 0, 1);
            x.apply(0, 0, 59, 1);
        };
        for (int none : new int[] {Edges.LOW, -1, 1, 6, Edges.HIGH}) {
            edges.refused("route " + none, Edges.NO_SUCH, story, x -> x.lottery(none, 0));
        }
        for (int none : new int[] {Edges.LOW, -1, 60, Edges.HIGH}) {
            edges.refused("day " + none, Edges.NO_SUCH, story, x -> x.lottery(0, none));
        }
        edges.due("the first day", Edges.told(story).lottery(0, 0), 1);
        edges.due("the last day", Edges.told(story).lottery(0, 59), 1);
    }

    private static void lotteryNotPossible() {
        Edges.Story story = x -> {
            Edges.open(x, 3, 1, 2);
            x.route(3, 0);
            x.apply(0, 0, 0, 1);
            x.end();
            x.apply(0, 0, 1, 1);
            x.apply(0, 0, 5, 1);
            x.close(5);
            x.apply(0, 0, 8, 1);
            x.apply(0, 1, 9, 1);
            Edges.won(x, 1, 0, 9, 1);
            Edges.lost(x, 0, 0, 9, 4);
            x.apply(0, 0, 10, 1);
            x.cancel(7);
        };
        edges.refused("before today", Edges.NOT_POSSIBLE, story, x -> x.lottery(0, 0));
        edges.refused("closed", Edges.NOT_POSSIBLE, story, x -> x.lottery(0, 5));
        edges.refused("no application", Edges.NOT_POSSIBLE, story, x -> x.lottery(0, 20));
        edges.refused("one of another route, one WON, one LOST", Edges.NOT_POSSIBLE, story, x -> x.lottery(0, 9));
        edges.refused("one that is CANCELLED", Edges.NOT_POSSIBLE, story, x -> x.lottery(0, 10));
        edges.due("today", Edges.told(story).lottery(0, 1), 1);
        edges.due("a later day", Edges.told(story).lottery(0, 8), 1);
    }

    private static void cancelled() {
        ClimbPermits x = Edges.office(1, 0, 2);
        Edges.won(x, 0, 0, 9, 1);
        Edges.lost(x, 1, 0, 9, 1);
        edges.due("a permit", x.cancel(0), 100);
        edges.due("its state", x.application(0, 4), Edges.CANCELLED);
        edges.due("what is refunded", x.application(0, 6), 100);
        edges.due("the waiting list went on", x.application(1, 4), Edges.WON);
        edges.due("that one is cancelled, too", x.cancel(1), 100);
        edges.due("nobody is left", x.onRoute(0, 9, 2), 0);
    }

    private static void cancelRefund() {
        ClimbPermits x = Edges.office(1, 0, 2);
        x.set(Edges.FEE, 1000);
        x.apply(0, 0, 20, 1);
        Edges.lost(x, 0, 0, 21, 4);
        Edges.won(x, 0, 0, 22, 1);
        x.set(Edges.FEE, 1);
        int[] due = {0, 0, 1000};
        for (int i = 0; i < due.length; i++) {
            edges.due("application " + i, x.cancel(i), due[i]);
            edges.due("told", x.application(i, 6), due[i]);
            edges.due("its state", x.application(i, 4), Edges.CANCELLED);
        }
        edges.due("refunded in all", x.count(12), 1000);
        edges.due("the memory stays", x.climber(0, 0), 0);
        Edges.lost(x, 0, 0, 23, 4);
        x.cancel(3);
        edges.due("also that of one that is LOST", x.climber(0, 0), 1);
    }

    private static void twoApplications(ClimbPermits x) {
        Edges.open(x, 3, 1, 1);
        x.apply(0, 0, 0, 1);
        x.apply(0, 0, 5, 1);
    }

    private static void cancelNoSuch() {
        for (int none : new int[] {Edges.LOW, -1, 2, 40, Edges.HIGH}) {
            edges.refused("application " + none, Edges.NO_SUCH, EdgesOfChangesTest::twoApplications, x -> x.cancel(none));
        }
        edges.due("the first one", Edges.told(EdgesOfChangesTest::twoApplications).cancel(0), 0);
        edges.due("the last one", Edges.told(EdgesOfChangesTest::twoApplications).cancel(1), 0);
        edges.refused("none is there", Edges.NO_SUCH, open(3, 1, 1), x -> x.cancel(0));
        edges.due("the fortieth", Edges.told(applications(40)).cancel(39), 0);
    }

    /** Applications in the states CANCELLED, REFUNDED, USED and NOT_USED, and others who wait for their days. */
    private static void ended(ClimbPermits x) {
        Edges.open(x, 3, 0, 4);
        x.set(Edges.SHIFT, 0);
        Edges.won(x, 0, 0, 9, 3);
        x.cancel(0);
        Edges.won(x, 1, 0, 8, 3);
        x.close(8);
        Edges.won(x, 2, 0, 0, 1);
        Edges.won(x, 3, 0, 0, 1);
        x.show(2);
        x.end();
        x.buffer(0, 3);
        Edges.lost(x, 1, 0, 9, 1);
        x.buffer(0, 0);
    }

    private static void cancelNotPossible() {
        int[] states = {Edges.CANCELLED, Edges.REFUNDED, Edges.USED, Edges.NOT_USED};
        for (int i = 0; i < states.length; i++) {
            int application = i;
            edges.due("the state", Edges.told(EdgesOfChangesTest::ended).application(i, 4), states[i]);
            edges.refused("state " + states[i], Edges.NOT_POSSIBLE, EdgesOfChangesTest::ended, x -> x.cancel(application));
        }
    }

    // ---- 9, 10

    private static void closeNumber() {
        ClimbPermits x = Edges.office(4, 0, 6);
        for (int climber = 0; climber < 4; climber++) {
            Edges.won(x, climber, 0, 5, 1);
        }
        Edges.won(x, 4, 0, 6, 2);
        x.set(Edges.SHIFT, 1);
        x.apply(5, 0, 5, 1);
        edges.due("two of four", x.close(5), 2);
        edges.due("two are REFUNDED", x.count(8), 2);
        edges.due("all that moved before and the one of the day", x.close(6), 3);
        edges.due("none", x.close(20), 0);
        x.close(8);
        edges.due("none of three", x.close(7), 0);
        edges.due("five are REFUNDED", x.count(8), 5);
    }

    private static void closeNoSuch() {
        for (int day : new int[] {Edges.LOW, -1, 60, 61, Edges.HIGH}) {
            edges.refused("day " + day, Edges.NO_SUCH, EdgesOfChangesTest::twoApplications, x -> x.close(day));
        }
        edges.due("the first day", new ClimbPermits().close(0), 0);
        edges.due("the last day", new ClimbPermits().close(59), 0);
    }

    private static void closeNotPossible() {
        Edges.Story story = x -> {
            twoApplications(x);
            x.close(7);
            x.close(59);
            Edges.endDays(x, 2);
        };
        for (int day : new int[] {0, 1, 7, 59}) {
            edges.refused("day " + day, Edges.NOT_POSSIBLE, story, x -> x.close(day));
        }
        ClimbPermits x = Edges.told(story);
        edges.due("today", x.close(2), 0);
        edges.due("today again", x.close(2), Edges.NOT_POSSIBLE);
        for (int day = 3; day < 59; day++) {
            edges.due("day " + day, x.close(day), day == 7 ? Edges.NOT_POSSIBLE : 0);
        }
        edges.due("all days but two", x.count(13), 58);
        x.end();
        edges.due("a day that is over and closed", x.close(2), Edges.NOT_POSSIBLE);
    }

    private static void standbyOfBuffer() {
        for (int buffer = 0; buffer <= 4; buffer++) {
            ClimbPermits x = Edges.office(4, 4, 5);
            for (int climber = 0; climber < 5; climber++) {
                Edges.lost(x, climber, 0, 0, 1);
            }
            x.buffer(0, buffer);
            for (int i = 0; i < 4; i++) {
                edges.due("place " + i + " beside a buffer of " + buffer, x.standby(i), 100);
                edges.due("a permit", x.application(i, 4), Edges.WON);
                edges.due("places taken", x.onRoute(0, 0, 2), i + 1);
            }
            edges.due("no place", x.standby(4), Edges.NOT_POSSIBLE);
            edges.due("not there", x.application(0, 7), 0);
        }
        ClimbPermits ended = Edges.office(1, 0, 1);
        ended.apply(0, 0, 0, 1);
        ended.close(1);
        ended.end();
        edges.due("LOST by the end of its day", ended.standby(0), Edges.NOT_POSSIBLE);
    }

    private static void standbyMemory() {
        ClimbPermits x = Edges.office(1, 1, 2);
        Edges.lost(x, 0, 0, 0, 1);
        Edges.lose(x, 0, 0, 5, 2);
        x.standby(0);
        edges.due("3", x.climber(0, 0), 3);
        edges.due("its tickets", x.application(0, 9), 4);
        edges.due("SEED stays", x.count(20), Edges.seedBehind(Edges.seedBehind(149)));
    }

    private static void standbyPaid() {
        for (int party = 1; party <= 4; party++) {
            ClimbPermits x = Edges.office(4, 4, 1);
            Edges.lost(x, 0, 0, 0, party);
            x.set(Edges.FEE, 33);
            edges.due("a party of " + party, x.standby(0), 33 * party);
            edges.due("told", x.application(0, 5), 33 * party);
            edges.due("paid by the climber", x.climber(0, 4), 33 * party);
        }
    }

    private static void standbyNoSuch() {
        Edges.Story story = x -> {
            Edges.open(x, 3, 3, 2);
            Edges.lost(x, 0, 0, 0, 1);
            Edges.lost(x, 1, 0, 0, 1);
        };
        for (int none : new int[] {Edges.LOW, -1, 2, 40, Edges.HIGH}) {
            edges.refused("application " + none, Edges.NO_SUCH, story, x -> x.standby(none));
        }
        edges.due("the first one", Edges.told(story).standby(0), 100);
        edges.due("the last one", Edges.told(story).standby(1), 100);
    }

    private static void standbyNotLost() {
        Edges.Story story = x -> {
            Edges.open(x, 9, 0, 4);
            Edges.won(x, 0, 0, 0, 1);
            x.apply(1, 0, 0, 1);
            x.apply(2, 0, 0, 1);
            x.cancel(2);
        };
        int[] states = {Edges.WON, Edges.APPLIED, Edges.CANCELLED};
        for (int i = 0; i < states.length; i++) {
            int application = i;
            edges.due("the state", Edges.told(story).application(i, 4), states[i]);
            edges.refused("state " + states[i], Edges.NOT_POSSIBLE, story, x -> x.standby(application));
        }
        for (int i = 0; i < 4; i++) {
            int application = i;
            edges.refused("one that has ended", Edges.NOT_POSSIBLE, EdgesOfChangesTest::ended, x -> x.standby(application));
        }
        ClimbPermits again = Edges.office(1, 1, 1);
        Edges.lost(again, 0, 0, 0, 1);
        edges.due("one that is LOST", again.standby(0), 100);
        edges.due("it is WON then", again.standby(0), Edges.NOT_POSSIBLE);
    }

    private static void standbyNotOfToday() {
        Edges.Story story = x -> {
            Edges.open(x, 3, 3, 1);
            x.end();
            Edges.lost(x, 0, 0, 1, 1);
            Edges.lost(x, 0, 0, 2, 1);
            Edges.lost(x, 0, 0, 3, 1);
            x.end();
        };
        edges.refused("of yesterday", Edges.NOT_POSSIBLE, story, x -> x.standby(0));
        edges.due("of today", Edges.told(story).standby(1), 100);
        edges.refused("of tomorrow", Edges.NOT_POSSIBLE, story, x -> x.standby(2));
    }

    private static void standbyClosed() {
        Edges.Story story = x -> {
            Edges.open(x, 3, 3, 1);
            Edges.lost(x, 0, 0, 0, 1);
        };
        edges.refused("closed", Edges.NOT_POSSIBLE, x -> {
            story.tell(x);
            x.close(0);
        }, x -> x.standby(0));
        edges.refused("LOST by closing", Edges.NOT_POSSIBLE, x -> {
            Edges.open(x, 3, 0, 1);
            x.apply(0, 0, 0, 1);
            x.close(0);
        }, x -> x.standby(0));
        ClimbPermits other = Edges.told(story);
        other.close(1);
        edges.due("another day is closed", other.standby(0), 100);
    }

    /** It is the day 5, for which a climber waits who is barred up to a day. */
    private static Edges.Story waitsBarredUpTo(int day) {
        return x -> {
            Edges.open(x, 4, 4, 1);
            Edges.lost(x, 0, 0, 5, 4);
            x.buffer(0, 0);
            Edges.bar(x, 0, 0, day);
            Edges.endDays(x, 4);
        };
    }

    private static void standbyBarred() {
        edges.due("today", Edges.told(waitsBarredUpTo(5)).count(0), 5);
        edges.refused("up to a later day", Edges.NOT_POSSIBLE, waitsBarredUpTo(6), x -> x.standby(0));
        edges.refused("up to today", Edges.NOT_POSSIBLE, waitsBarredUpTo(5), x -> x.standby(0));
        edges.due("up to yesterday", Edges.told(waitsBarredUpTo(4)).standby(0), 400);
    }

    private static void standbyDoesNotFit() {
        for (int party = 1; party <= 4; party++) {
            for (int taken = 0; taken <= 4; taken++) {
                int partyThen = party;
                int takenThen = taken;
                Edges.Story story = x -> {
                    Edges.open(x, 5, 0, 2);
                    if (takenThen > 0) {
                        Edges.won(x, 0, 0, 0, takenThen);
                    }
                    x.buffer(0, 5);
                    Edges.lost(x, 1, 0, 0, partyThen);
                };
                int application = taken > 0 ? 1 : 0;
                String what = party + " to " + taken + " of 5";
                if (party + taken <= 5) {
                    edges.due(what, Edges.told(story).standby(application), 100 * party);
                } else {
                    edges.refused(what, Edges.NOT_POSSIBLE, story, x -> x.standby(application));
                }
            }
        }
    }

    // ---- 11, 12

    private static void showCounts() {
        ClimbPermits x = Edges.office(2, 0, 2);
        Edges.won(x, 0, 0, 0, 1);
        Edges.won(x, 1, 0, 0, 1);
        x.show(0);
        edges.due("still WON", x.application(0, 4), Edges.WON);
        edges.due("told", x.application(0, 7), 1);
        edges.due("not the other one", x.application(1, 7), 0);
        edges.due("end", x.end(), 1);
        edges.due("USED", x.application(0, 4), Edges.USED);
        edges.due("NOT_USED", x.application(1, 4), Edges.NOT_USED);
        edges.due("no strike", x.climber(0, 1), 0);
        edges.due("a strike", x.climber(1, 1), 1);
        ClimbPermits last = Edges.office(2, 0, 1);
        Edges.won(last, 0, 0, 59, 1);
        Edges.endDays(last, 59);
        edges.due("on the last day", last.show(0), 1);
        edges.due("which does not end", last.end(), Edges.NOT_POSSIBLE);
        edges.due("so it stays WON", last.application(0, 4), Edges.WON);
    }

    private static void showReturns() {
        for (int party = 1; party <= 4; party++) {
            ClimbPermits x = Edges.office(4, 0, 1);
            Edges.won(x, 0, 0, 0, party);
            edges.due("for a party of " + party, x.show(0), 1);
        }
        ClimbPermits standby = Edges.office(4, 4, 1);
        Edges.lost(standby, 0, 0, 0, 1);
        standby.standby(0);
        edges.due("behind standby", standby.show(0), 1);
    }

    private static void showNoSuch() {
        Edges.Story story = x -> {
            Edges.open(x, 3, 0, 2);
            Edges.won(x, 0, 0, 0, 1);
            Edges.won(x, 1, 0, 0, 1);
        };
        for (int none : new int[] {Edges.LOW, -1, 2, 40, Edges.HIGH}) {
            edges.refused("application " + none, Edges.NO_SUCH, story, x -> x.show(none));
        }
        edges.due("the first one", Edges.told(story).show(0), 1);
        edges.due("the last one", Edges.told(story).show(1), 1);
    }

    private static void showNotWon() {
        Edges.Story story = x -> {
            Edges.open(x, 9, 9, 4);
            Edges.lost(x, 0, 0, 0, 1);
            x.apply(1, 0, 0, 1);
            x.apply(2, 0, 0, 1);
            x.cancel(2);
            x.buffer(0, 0);
        };
        for (int i = 0; i < 3; i++) {
            int application = i;
            edges.refused("application " + i, Edges.NOT_POSSIBLE, story, x -> x.show(application));
        }
        edges.refused("a permit that was cancelled", Edges.NOT_POSSIBLE, x -> {
            Edges.open(x, 3, 0, 1);
            Edges.won(x, 0, 0, 0, 1);
            x.cancel(0);
        }, x -> x.show(0));
        edges.refused("a permit that was refunded", Edges.NOT_POSSIBLE, x -> {
            Edges.open(x, 3, 0, 1);
            x.set(Edges.SHIFT, 0);
            Edges.won(x, 0, 0, 0, 1);
            x.close(0);
        }, x -> x.show(0));
    }

    private static void showNotOfToday() {
        Edges.Story story = x -> {
            Edges.open(x, 3, 0, 1);
            Edges.won(x, 0, 0, 0, 1);
            Edges.won(x, 0, 0, 1, 1);
            Edges.won(x, 0, 0, 2, 1);
            x.end();
        };
        edges.refused("of yesterday", Edges.NOT_POSSIBLE, story, x -> x.show(0));
        edges.due("of today", Edges.told(story).show(1), 1);
        edges.refused("of tomorrow", Edges.NOT_POSSIBLE, story, x -> x.show(2));
        edges.refused("of today, moved to tomorrow", Edges.NOT_POSSIBLE, x -> {
            story.tell(x);
            x.close(1);
        }, x -> x.show(1));
    }

    private static void showTwice() {
        Edges.Story story = x -> {
            Edges.open(x, 3, 0, 1);
            Edges.won(x, 0, 0, 0, 1);
            x.show(0);
        };
        edges.refused("twice", Edges.NOT_POSSIBLE, story, x -> x.show(0));
        ClimbPermits moved = Edges.told(story);
        moved.close(0);
        moved.end();
        edges.due("once more on another day", moved.show(0), 1);
        edges.due("and not twice", moved.show(0), Edges.NOT_POSSIBLE);
    }

    private static void endNumber() {
        for (int permits = 0; permits <= 12; permits++) {
            ClimbPermits x = Edges.office(12, 0, 12);
            for (int climber = 0; climber < permits; climber++) {
                Edges.won(x, climber, 0, 0, 1);
            }
            for (int shown = 0; shown < permits / 2; shown++) {
                x.show(2 * shown);
            }
            edges.due("of " + permits + " permits", x.end(), permits - permits / 2);
            edges.due("USED", x.count(9), permits / 2);
            edges.due("NOT_USED", x.count(10), permits - permits / 2);
        }
        ClimbPermits party = Edges.office(12, 0, 3);
        for (int climber = 0; climber < 3; climber++) {
            Edges.won(party, climber, 0, 0, 4);
        }
        edges.due("permits, not places", party.end(), 3);
    }

    private static void endNotPossible() {
        Edges.Story story = x -> {
            Edges.open(x, 3, 0, 2);
            Edges.won(x, 0, 0, 59, 1);
            x.apply(1, 0, 59, 1);
            Edges.endDays(x, 59);
        };
        edges.refused("on the day 59", Edges.NOT_POSSIBLE, story, x -> x.end());
        ClimbPermits x = new ClimbPermits();
        Edges.endDays(x, 58);
        edges.due("on the day 58", x.end(), 0);
        edges.due("then on the day 59", x.end(), Edges.NOT_POSSIBLE);
        ClimbPermits last = Edges.told(story);
        edges.due("the lottery of the last day", last.lottery(0, 59), 1);
        edges.due("closing it", last.close(59), 0);
    }
}
