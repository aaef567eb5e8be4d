/** The edges in the promises 13 to 19 of the document, which tell about an office and change nothing. */
public final class EdgesOfAnswersTest {
    private static final Edges edges = new Edges();

    private EdgesOfAnswersTest() {
    }

    public static void main(String[] args) {
        onRouteAndClimber();
        applicationAndCount();
        nextWaiting();
        oddsAndTries();
        edges.close();
    }

    private static void onRouteAndClimber() {
        edges.test("Promise 13:", "0 its limit, 1 its buffer, 2 the places that are taken on the day,", EdgesOfAnswersTest::routeNumbers);
        edges.test("Promise 13:", "3 the places left for a lottery of the day (0 at least),", EdgesOfAnswersTest::routePlacesLeft);
        edges.test("Promise 13:", "4 the applications of the day that are APPLIED, 5 those that are LOST",
                EdgesOfAnswersTest::routeApplications);
        edges.test("Promise 13:", "NO_SUCH if there is no such route or day;", EdgesOfAnswersTest::routeNoSuch);
        edges.test("Promise 13:", "BAD_VALUE if what is out of range.", EdgesOfAnswersTest::routeBadValue);
        edges.test("Promise 14:", "0 the memory, 1 the strikes,", EdgesOfAnswersTest::climberMemoryAndStrikes);
        edges.test("Promise 14:", "2 the last day up to which the climber is or was barred (NONE if never barred),",
                EdgesOfAnswersTest::climberBarred);
        edges.test("Promise 14:", "3 the permits that the climber has (WON), 4 all that was paid, 5 all that was refunded, "
                + "6 the applications", EdgesOfAnswersTest::climberNumbers);
        edges.test("Promise 14:", "NO_SUCH if there is no such climber;", EdgesOfAnswersTest::climberNoSuch);
        edges.test("Promise 14:", "BAD_VALUE if what is out of range.", EdgesOfAnswersTest::climberBadValue);
    }

    private static void applicationAndCount() {
        edges.test("Promise 15:", "0 its climber, 1 its route, 2 its day, 3 its party, 4 its state, 5 what was paid, 6 what was "
                + "refunded,", EdgesOfAnswersTest::applicationNumbers);
        edges.test("Promise 15:", "7 whether the climbers are there (1 or 0), 8 the day for which it was made,",
                EdgesOfAnswersTest::applicationThere);
        edges.test("Promise 15:", "9 its tickets in a lottery now, whatever its state is", EdgesOfAnswersTest::applicationTickets);
        edges.test("Promise 15:", "NO_SUCH if there is no such application;", EdgesOfAnswersTest::applicationNoSuch);
        edges.test("Promise 15:", "BAD_VALUE if what is out of range.", EdgesOfAnswersTest::applicationBadValue);
        edges.test("Promise 16:", "0 today, 1 routes, 2 climbers, 3 applications, 4 to 10 the applications in the states APPLIED to "
                + "NOT_USED,", EdgesOfAnswersTest::countStates);
        edges.test("Promise 16:", "11 all that was paid, 12 all that was refunded, 13 the days that are closed, 14 the length of the "
                + "pad, 15 to 20 the settings", EdgesOfAnswersTest::countRest);
        edges.test("Promise 16:", "BAD_VALUE if what is out of range.", EdgesOfAnswersTest::countBadValue);
    }

    private static void nextWaiting() {
        edges.test("Promise 17:", "Returns the application that would get a permit from the waiting list of a route and a day now,",
                EdgesOfAnswersTest::waitingAsServed);
        edges.test("Promise 17:", "if the limit was greater by 1.", EdgesOfAnswersTest::waitingGreaterByOne);
        edges.test("Promise 17:", "NO_SUCH if there is no such route or day;", EdgesOfAnswersTest::waitingNoSuch);
        edges.test("Promise 17:", "NONE if there is none", EdgesOfAnswersTest::waitingNone);
        edges.test("Promise 17:", "(also if the day is closed or before today).", EdgesOfAnswersTest::waitingClosedOrOver);
    }

    private static void oddsAndTries() {
        edges.test("Promise 18:", "Returns 1000000 * (its tickets) / (the sum of the tickets of all that would be in the lottery,",
                EdgesOfAnswersTest::oddsOfAll);
        edges.test("Promise 18:", "whether their parties fit or not);", EdgesOfAnswersTest::oddsFitOrNot);
        edges.test("Promise 18:", "NO_SUCH if there is no such application;", EdgesOfAnswersTest::oddsNoSuch);
        edges.test("Promise 18:", "NOT_POSSIBLE if it is not APPLIED,", EdgesOfAnswersTest::oddsNotApplied);
        edges.test("Promise 18:", "or would not be in the lottery (its climber is barred then).", EdgesOfAnswersTest::oddsBarred);
        edges.test("Promise 19:", "each time with all as it is now but for SEED, which goes on from one to the next;",
                EdgesOfAnswersTest::triesAsHeld);
        edges.test("Promise 19:", "nothing changes, neither does SEED.", EdgesOfAnswersTest::triesChangeNothing);
        edges.test("Promise 19:", "`times`: 1 to 200", EdgesOfAnswersTest::triesTimes);
        edges.test("Promise 19:", "Returns how many times the application is WON (0 if its climber is barred then);",
                EdgesOfAnswersTest::triesBarred);
        edges.test("Promise 19:", "NO_SUCH if there is no such application;", EdgesOfAnswersTest::triesNoSuch);
        edges.test("Promise 19:", "BAD_VALUE if times is out of range;", EdgesOfAnswersTest::triesBadValue);
        edges.test("Promise 19:", "NOT_POSSIBLE if it is not APPLIED, or its day is before today or closed.",
                EdgesOfAnswersTest::triesNotPossible);
    }

    /** Two routes, two climbers, and an application that is WON, one that is LOST and one that is APPLIED. */
    private static void some(ClimbPermits x) {
        Edges.open(x, 3, 1, 2);
        x.route(2, 0);
        Edges.won(x, 0, 0, 5, 2);
        Edges.lost(x, 1, 0, 5, 2);
        x.apply(1, 1, 6, 1);
    }

    // ---- onRoute

    private static void routeNumbers() {
        ClimbPermits x = Edges.office(1, 0, 12);
        x.route(12, 12);
        int[] days = {0, 59};
        for (int day : days) {
            edges.due("the lowest limit", x.onRoute(0, day, 0), 1);
            edges.due("the lowest buffer", x.onRoute(0, day, 1), 0);
            edges.due("the highest limit", x.onRoute(1, day, 0), 12);
            edges.due("the highest buffer", x.onRoute(1, day, 1), 12);
            edges.due("no places taken", x.onRoute(1, day, 2), 0);
        }
        x.buffer(1, 0);
        for (int climber = 0; climber < 3; climber++) {
            Edges.won(x, climber, 1, 59, 4);
            edges.due("places taken", x.onRoute(1, 59, 2), 4 * climber + 4);
            edges.due("not on another day", x.onRoute(1, 58, 2), 0);
            edges.due("not on another route", x.onRoute(0, 59, 2), 0);
        }
        x.end();
        x.close(7);
        edges.due("on a day that is over", x.onRoute(1, 0, 0), 12);
        edges.due("on a closed day", x.onRoute(1, 7, 0), 12);
    }

    private static void routePlacesLeft() {
        ClimbPermits x = Edges.office(4, 0, 2);
        Edges.won(x, 0, 0, 5, 2);
        int[] left = {2, 1, 0, 0, 0};
        for (int buffer = 0; buffer <= 4; buffer++) {
            x.buffer(0, buffer);
            edges.due("beside a buffer of " + buffer, x.onRoute(0, 5, 3), left[buffer]);
            edges.due("on another day", x.onRoute(0, 6, 3), 4 - buffer);
        }
        x.buffer(0, 2);
        edges.due("none is left", x.onRoute(0, 5, 3), 0);
        Edges.lost(x, 1, 0, 5, 1);
        edges.due("none is left behind one that lost", x.onRoute(0, 5, 3), 0);
        x.cancel(0);
        edges.due("the one who waits has one", x.onRoute(0, 5, 3), 1);
    }

    private static void routeApplications() {
        ClimbPermits x = Edges.office(1, 0, 12);
        x.route(1, 0);
        for (int climber = 0; climber < 12; climber++) {
            edges.due("APPLIED", x.onRoute(0, 5, 4), climber);
            x.apply(climber, 0, 5, 1);
        }
        edges.due("of another route", x.onRoute(1, 5, 4), 0);
        edges.due("of another day", x.onRoute(0, 4, 4), 0);
        edges.due("none is LOST", x.onRoute(0, 5, 5), 0);
        x.lottery(0, 5);
        edges.due("none is APPLIED", x.onRoute(0, 5, 4), 0);
        edges.due("LOST", x.onRoute(0, 5, 5), 11);
        edges.due("LOST on another route", x.onRoute(1, 5, 5), 0);
        edges.due("LOST on another day", x.onRoute(0, 6, 5), 0);
    }

    private static void routeNoSuch() {
        Edges.Story story = EdgesOfAnswersTest::some;
        for (int none : new int[] {Edges.LOW, -1, 2, 6, Edges.HIGH}) {
            edges.refused("route " + none, Edges.NO_SUCH, story, x -> x.onRoute(none, 5, 0));
        }
        for (int none : new int[] {Edges.LOW, -1, 60, Edges.HIGH}) {
            edges.refused("day " + none, Edges.NO_SUCH, story, x -> x.onRoute(0, none, 0));
        }
        edges.due("the last route and day", Edges.told(story).onRoute(1, 59, 0), 2);
        edges.due("no route is there", new ClimbPermits().onRoute(0, 0, 0), Edges.NO_SUCH);
    }

    private static void routeBadValue() {
        for (int what : new int[] {Edges.LOW, -1, 6, 7, Edges.HIGH}) {
            edges.refused("what " + what, Edges.BAD_VALUE, EdgesOfAnswersTest::some, x -> x.onRoute(1, 5, what));
        }
        ClimbPermits x = Edges.told(EdgesOfAnswersTest::some);
        int[] due = {3, 1, 2, 0, 0, 1};
        for (int what = 0; what <= 5; what++) {
            edges.due("what " + what, x.onRoute(0, 5, what), due[what]);
        }
    }

    // ---- climber

    private static void climberMemoryAndStrikes() {
        ClimbPermits x = Edges.office(1, 0, 12);
        x.set(Edges.STRIKES, 5);
        for (int climber = 0; climber < 12; climber += 11) {
            edges.due("no memory", x.climber(climber, 0), 0);
            edges.due("no strikes", x.climber(climber, 1), 0);
        }
        for (int day = 0; day < 4; day++) {
            Edges.won(x, 11, 0, day, 1);
        }
        Edges.lose(x, 11, 0, 4, 5);
        Edges.endDays(x, 4);
        edges.due("memory", x.climber(11, 0), 5);
        edges.due("strikes, one less than by which one is barred", x.climber(11, 1), 4);
        edges.due("none of the first climber", x.climber(0, 0) + x.climber(0, 1), 0);
    }

    private static void climberBarred() {
        ClimbPermits x = Edges.office(1, 0, 2);
        edges.due("never", x.climber(0, 2), Edges.NONE);
        Edges.bar(x, 0, 0, 0);
        edges.due("up to the day 0", x.climber(0, 2), 0);
        edges.due("the other one never", x.climber(1, 2), Edges.NONE);
        Edges.bar(x, 0, 0, 3);
        Edges.endDays(x, 10);
        edges.due("what was stays", x.climber(0, 2), 3);
        Edges.bar(x, 0, 0, 42);
        edges.due("a later one", x.climber(0, 2), 42);
        ClimbPermits last = Edges.office(1, 0, 1);
        Edges.endDays(last, 58);
        Edges.bar(last, 0, 0, 88);
        edges.due("beyond the last day", last.climber(0, 2), 88);
    }

    private static void climberNumbers() {
        ClimbPermits x = Edges.office(4, 0, 2);
        for (int what = 3; what <= 6; what++) {
            edges.due("of one who never applied, what " + what, x.climber(1, what), 0);
        }
        Edges.won(x, 0, 0, 0, 1);
        Edges.won(x, 0, 0, 1, 2);
        Edges.won(x, 0, 0, 9, 3);
        Edges.won(x, 0, 0, 10, 4);
        x.apply(0, 0, 11, 1);
        x.show(0);
        x.end();
        x.cancel(2);
        edges.due("those that are WON, not one that is USED or CANCELLED", x.climber(0, 3), 2);
        edges.due("all that was paid, also for what ended", x.climber(0, 4), 1000);
        edges.due("all that was refunded", x.climber(0, 5), 300);
        edges.due("applications in all states", x.climber(0, 6), 5);
        edges.due("none of another climber", x.climber(1, 3) + x.climber(1, 4) + x.climber(1, 5) + x.climber(1, 6), 0);
        ClimbPermits forty = Edges.office(4, 0, 2);
        for (int i = 0; i < 40; i++) {
            forty.apply(1, 0, i, 1);
        }
        edges.due("forty", forty.climber(1, 6), 40);
        edges.due("none", forty.climber(0, 6), 0);
    }

    private static void climberNoSuch() {
        for (int none : new int[] {Edges.LOW, -1, 2, 12, Edges.HIGH}) {
            edges.refused("climber " + none, Edges.NO_SUCH, EdgesOfAnswersTest::some, x -> x.climber(none, 0));
        }
        edges.due("the last one", Edges.told(EdgesOfAnswersTest::some).climber(1, 6), 2);
        edges.due("no climber is there", new ClimbPermits().climber(0, 0), Edges.NO_SUCH);
    }

    private static void climberBadValue() {
        for (int what : new int[] {Edges.LOW, -1, 7, 8, Edges.HIGH}) {
            edges.refused("what " + what, Edges.BAD_VALUE, EdgesOfAnswersTest::some, x -> x.climber(0, what));
        }
        ClimbPermits x = Edges.told(EdgesOfAnswersTest::some);
        int[] due = {0, 0, Edges.NONE, 1, 200, 0, 1};
        for (int what = 0; what <= 6; what++) {
            edges.due("what " + what, x.climber(0, what), due[what]);
        }
    }

    // ---- application

    private static void applicationNumbers() {
        ClimbPermits x = Edges.office(1, 0, 12);
        for (int route = 1; route < 6; route++) {
            x.route(12, 0);
        }
        int[] lowest = {0, 0, 0, 1, Edges.APPLIED, 0, 0};
        int[] highest = {11, 5, 59, 4, Edges.APPLIED, 0, 0};
        x.apply(0, 0, 0, 1);
        x.apply(11, 5, 59, 4);
        for (int what = 0; what <= 6; what++) {
            edges.due("the lowest, what " + what, x.application(0, what), lowest[what]);
            edges.due("the highest, what " + what, x.application(1, what), highest[what]);
        }
        x.set(Edges.FEE, 999);
        x.lottery(5, 59);
        x.cancel(1);
        int[] cancelled = {11, 5, 59, 4, Edges.CANCELLED, 3996, 3996};
        for (int what = 0; what <= 6; what++) {
            edges.due("cancelled, what " + what, x.application(1, what), cancelled[what]);
        }
    }

    private static void applicationThere() {
        ClimbPermits x = Edges.office(4, 0, 1);
        Edges.won(x, 0, 0, 0, 1);
        edges.due("not told", x.application(0, 7), 0);
        x.show(0);
        edges.due("told", x.application(0, 7), 1);
        x.end();
        edges.due("behind the end of the day", x.application(0, 7), 1);
        Edges.won(x, 0, 0, 58, 1);
        x.close(58);
        edges.due("the day that it has", x.application(1, 2), 59);
        edges.due("the day for which it was made", x.application(1, 8), 58);
        x.close(59);
        edges.due("REFUNDED", x.application(1, 4), Edges.REFUNDED);
        edges.due("the day that it had", x.application(1, 2), 59);
        edges.due("still the day for which it was made", x.application(1, 8), 58);
    }

    private static void applicationTickets() {
        ClimbPermits x = Edges.office(3, 0, 2);
        x.set(Edges.SHIFT, 0);
        x.route(3, 0);
        Edges.won(x, 0, 1, 0, 1);
        Edges.won(x, 0, 0, 0, 1);
        x.show(1);
        x.end();
        Edges.won(x, 0, 0, 20, 1);
        Edges.won(x, 0, 0, 21, 1);
        Edges.won(x, 0, 0, 22, 1);
        x.cancel(3);
        x.apply(0, 0, 23, 1);
        Edges.lost(x, 0, 0, 24, 4);
        x.close(22);
        int[] states = {Edges.NOT_USED, Edges.USED, Edges.WON, Edges.CANCELLED, Edges.REFUNDED, Edges.APPLIED, Edges.LOST};
        edges.due("memory", x.climber(0, 0), 3);
        for (int each = 0; each <= 9; each += 3) {
            x.set(Edges.MEMORY, each);
            for (int i = 0; i < states.length; i++) {
                edges.due("state", x.application(i, 4), states[i]);
                edges.due("tickets in the state " + states[i], x.application(i, 9), 1 + 3 * each);
            }
        }
        x.set(Edges.MEMORY, 2);
        Edges.bar(x, 0, 1, 30);
        Edges.lose(x, 0, 0, 31, 2);
        edges.due("tickets of one who is barred then", x.application(5, 9), 5);
    }

    private static void applicationNoSuch() {
        for (int none : new int[] {Edges.LOW, -1, 3, 40, Edges.HIGH}) {
            edges.refused("application " + none, Edges.NO_SUCH, EdgesOfAnswersTest::some, x -> x.application(none, 0));
        }
        edges.due("the last one", Edges.told(EdgesOfAnswersTest::some).application(2, 2), 6);
        edges.due("none is there", Edges.office(1, 0, 1).application(0, 0), Edges.NO_SUCH);
    }

    private static void applicationBadValue() {
        for (int what : new int[] {Edges.LOW, -1, 10, 11, Edges.HIGH}) {
            edges.refused("what " + what, Edges.BAD_VALUE, EdgesOfAnswersTest::some, x -> x.application(0, what));
        }
        ClimbPermits x = Edges.told(EdgesOfAnswersTest::some);
        int[] due = {1, 0, 5, 2, Edges.LOST, 0, 0, 0, 5, 2};
        for (int what = 0; what <= 9; what++) {
            edges.due("what " + what, x.application(1, what), due[what]);
        }
    }

    // ---- count

    /** One that is APPLIED, two WON, three LOST, four CANCELLED, five REFUNDED, six USED and seven NOT_USED. */
    private static void inAllStates(ClimbPermits x) {
        Edges.open(x, 12, 0, 12);
        x.route(4, 0);
        x.set(Edges.SHIFT, 0);
        for (int climber = 0; climber < 12; climber++) {
            Edges.won(x, climber, 0, 0, 1);
        }
        Edges.won(x, 0, 1, 0, 1);
        for (int i = 0; i < 6; i++) {
            x.show(i);
        }
        x.end();
        for (int climber = 0; climber < 5; climber++) {
            Edges.won(x, climber, 0, 20, 1);
        }
        x.close(20);
        for (int climber = 0; climber < 4; climber++) {
            x.apply(climber, 0, 21, 1);
            x.cancel(18 + climber);
        }
        x.buffer(1, 4);
        Edges.lose(x, 5, 1, 22, 3);
        Edges.won(x, 0, 0, 30, 1);
        Edges.won(x, 1, 0, 30, 1);
        x.apply(2, 0, 30, 1);
    }

    private static void countStates() {
        ClimbPermits x = Edges.told(EdgesOfAnswersTest::inAllStates);
        for (int state = 0; state <= 6; state++) {
            edges.due("the state " + state, x.count(4 + state), state + 1);
        }
        edges.due("all of them", x.count(3), 28);
        edges.due("today", x.count(0), 1);
        edges.due("routes", x.count(1), 2);
        edges.due("climbers", x.count(2), 12);
        for (int what = 1; what <= 10; what++) {
            edges.due("none in a new office, what " + what, new ClimbPermits().count(what), 0);
        }
    }

    private static void countRest() {
        ClimbPermits x = Edges.office(4, 0, 2);
        edges.due("nothing paid", x.count(11), 0);
        edges.due("nothing refunded", x.count(12), 0);
        Edges.won(x, 0, 0, 3, 3);
        Edges.won(x, 1, 0, 30, 2);
        x.cancel(0);
        x.cancel(1);
        edges.due("paid by both", x.count(11), 500);
        edges.due("refunded to both", x.count(12), 350);
        for (int day = 0; day < 60; day++) {
            edges.due("closed days", x.count(13), day);
            x.close(day);
        }
        edges.due("all days are closed", x.count(13), 60);
        for (int length = 0; length < 60; length++) {
            edges.due("the pad", x.count(14), length);
            x.put('c');
        }
        edges.due("a full pad", x.count(14), 60);
        for (int setting = 0; setting <= 5; setting++) {
            x.set(setting, 1 + setting % 5);
            edges.due("the setting " + setting, x.count(15 + setting), 1 + setting % 5);
        }
    }

    private static void countBadValue() {
        for (int what : new int[] {Edges.LOW, -7, -6, -1, 21, 22, Edges.HIGH}) {
            edges.refused("what " + what, Edges.BAD_VALUE, EdgesOfAnswersTest::some, x -> x.count(what));
        }
        ClimbPermits x = Edges.told(EdgesOfAnswersTest::some);
        int[] due = {0, 2, 2, 3, 1, 1, 1, 0, 0, 0, 0, 200, 0, 0, 0, 100, 1, 2, 10, 3, 11249};
        for (int what = 0; what <= 20; what++) {
            edges.due("what " + what, x.count(what), due[what]);
        }
    }

    // ---- nextWaiting

    private static void waitingAsServed() {
        // The climbers lose one lottery each, and some of them more.
        int[][] more = {{0, 0, 0}, {0, 1, 0}, {0, 0, 1}, {1, 0, 1}, {0, 2, 2}, {3, 2, 1}};
        int[] first = {0, 1, 2, 0, 1, 0};
        for (int i = 0; i < more.length; i++) {
            ClimbPermits x = Edges.office(1, 0, 4);
            Edges.won(x, 3, 0, 5, 1);
            for (int climber = 0; climber < 3; climber++) {
                Edges.lost(x, climber, 0, 5, 1);
                Edges.lose(x, climber, 0, 10 + 5 * climber, more[i][climber]);
            }
            int next = x.nextWaiting(0, 5);
            edges.due("the climber of " + i, x.application(next, 0), first[i]);
            edges.due("its day", x.application(next, 2), 5);
            edges.due("asked again", x.nextWaiting(0, 5), next);
            x.cancel(0);
            edges.due("it gets the permit", x.application(next, 4), Edges.WON);
            edges.due("then another one is next", x.nextWaiting(0, 5) != next ? 1 : 0, 1);
        }
        barredDoNotWait();
    }

    private static void barredDoNotWait() {
        for (int upTo = 4; upTo <= 6; upTo++) {
            ClimbPermits x = Edges.office(1, 0, 2);
            Edges.lost(x, 0, 0, 5, 2);
            Edges.lost(x, 1, 0, 5, 2);
            Edges.bar(x, 0, 0, upTo);
            Edges.lose(x, 0, 0, 20, 5);
            edges.due("barred up to " + upTo, x.nextWaiting(0, 5), upTo < 5 ? 0 : 1);
        }
    }

    private static void waitingGreaterByOne() {
        for (int buffer = 0; buffer <= 5; buffer++) {
            for (int party = 1; party <= 4; party++) {
                ClimbPermits x = Edges.office(5, 0, 2);
                Edges.won(x, 0, 0, 7, 2);
                x.buffer(0, 5);
                Edges.lost(x, 1, 0, 7, party);
                x.buffer(0, buffer);
                boolean fits = party <= 5 + 1 - buffer - 2;
                edges.due(party + " into 5 + 1 - " + buffer + " - 2", x.nextWaiting(0, 7), fits ? 1 : Edges.NONE);
            }
        }
        ClimbPermits full = Edges.office(12, 0, 4);
        for (int climber = 0; climber < 3; climber++) {
            Edges.won(full, climber, 0, 7, 4);
        }
        Edges.lost(full, 3, 0, 7, 1);
        edges.due("also of the greatest limit", full.nextWaiting(0, 7), 3);
    }

    private static void waitingNoSuch() {
        Edges.Story story = EdgesOfAnswersTest::some;
        for (int none : new int[] {Edges.LOW, -1, 2, 6, Edges.HIGH}) {
            edges.refused("route " + none, Edges.NO_SUCH, story, x -> x.nextWaiting(none, 5));
        }
        for (int none : new int[] {Edges.LOW, -1, 60, Edges.HIGH}) {
            edges.refused("day " + none, Edges.NO_SUCH, story, x -> x.nextWaiting(0, none));
        }
        edges.due("the last route and day", Edges.told(story).nextWaiting(1, 59), Edges.NONE);
    }

    private static void waitingNone() {
        ClimbPermits x = Edges.office(2, 0, 4);
        edges.due("no application", x.nextWaiting(0, 5), Edges.NONE);
        x.apply(0, 0, 5, 1);
        edges.due("one that is APPLIED", x.nextWaiting(0, 5), Edges.NONE);
        x.lottery(0, 5);
        edges.due("one that is WON", x.nextWaiting(0, 5), Edges.NONE);
        x.cancel(0);
        edges.due("one that is CANCELLED", x.nextWaiting(0, 5), Edges.NONE);
        Edges.lost(x, 1, 0, 5, 4);
        edges.due("one that does not fit", x.nextWaiting(0, 5), Edges.NONE);
        Edges.lost(x, 2, 0, 6, 3);
        edges.due("one of another day", x.nextWaiting(0, 5), Edges.NONE);
        edges.due("on its own day", x.nextWaiting(0, 6), 2);
        x.route(4, 0);
        edges.due("one of another route", x.nextWaiting(1, 6), Edges.NONE);
    }

    private static void waitingClosedOrOver() {
        ClimbPermits x = Edges.office(2, 0, 1);
        for (int day = 0; day <= 2; day++) {
            Edges.lost(x, 0, 0, day, 3);
        }
        for (int today = 0; today <= 2; today++) {
            for (int day = 0; day <= 2; day++) {
                edges.due("day " + day + " on the day " + today, x.nextWaiting(0, day), day < today ? Edges.NONE : day);
            }
            x.end();
        }
        ClimbPermits closed = Edges.office(2, 0, 1);
        Edges.lost(closed, 0, 0, 0, 3);
        Edges.lost(closed, 0, 0, 5, 3);
        edges.due("today", closed.nextWaiting(0, 0), 0);
        closed.close(0);
        edges.due("today, closed", closed.nextWaiting(0, 0), Edges.NONE);
        edges.due("another day", closed.nextWaiting(0, 5), 1);
        closed.close(5);
        edges.due("that is closed, too", closed.nextWaiting(0, 5), Edges.NONE);
    }

    // ---- odds

    private static void oddsOfAll() {
        for (int entries = 1; entries <= 12; entries++) {
            ClimbPermits x = Edges.office(1, 0, 12);
            x.route(1, 0);
            for (int climber = 0; climber < entries; climber++) {
                x.apply(climber, 0, 5, 1);
            }
            x.apply(0, 1, 5, 1);
            x.apply(0, 0, 6, 1);
            edges.due("one of " + entries, x.odds(entries - 1), 1000000 / entries);
        }
        ClimbPermits x = Edges.office(1, 0, 3);
        Edges.lose(x, 0, 0, 20, 3);
        x.apply(0, 0, 5, 1);
        x.apply(1, 0, 5, 1);
        int[] first = {500000, 800000, 875000, 909090, 928571, 941176, 950000, 956521, 961538, 965517};
        for (int each = 0; each <= 9; each++) {
            x.set(Edges.MEMORY, each);
            edges.due("three lotteries lost, MEMORY " + each, x.odds(3), first[each]);
            edges.due("none lost, MEMORY " + each, x.odds(4), 1000000 / (2 + 3 * each));
        }
        Edges.lost(x, 2, 0, 6, 4);
        x.apply(2, 0, 5, 1);
        x.cancel(6);
        edges.due("one that is CANCELLED is not in it", x.odds(4), 1000000 / 29);
        oddsOfGreatestMemory();
    }

    /** A memory as great as forty applications allow, beside another climber: 38 permits that are refunded. */
    private static void oddsOfGreatestMemory() {
        ClimbPermits x = Edges.office(1, 0, 2);
        x.set(Edges.SHIFT, 0);
        x.set(Edges.MEMORY, 9);
        for (int day = 0; day < 38; day++) {
            Edges.won(x, 0, 0, day, 1);
        }
        for (int day = 0; day < 38; day++) {
            edges.due("close " + day, x.close(day), 0);
        }
        x.apply(0, 0, 50, 1);
        x.apply(1, 0, 50, 1);
        edges.due("memory", x.climber(0, 0), 76);
        edges.due("tickets", x.application(38, 9), 685);
        edges.due("685 of 686", x.odds(38), 998542);
        edges.due("1 of 686", x.odds(39), 1457);
    }

    private static void oddsFitOrNot() {
        ClimbPermits x = Edges.office(3, 3, 2);
        x.apply(0, 0, 5, 4);
        edges.due("alone, and it cannot fit", x.odds(0), 1000000);
        x.apply(1, 0, 5, 1);
        edges.due("with another one", x.odds(1), 500000);
        x.buffer(0, 0);
        edges.due("that fits now", x.odds(1), 500000);
        edges.due("beside one that does not", x.odds(0), 500000);
    }

    private static void oddsNoSuch() {
        for (int none : new int[] {Edges.LOW, -1, 3, 40, Edges.HIGH}) {
            edges.refused("application " + none, Edges.NO_SUCH, EdgesOfAnswersTest::some, x -> x.odds(none));
        }
        edges.due("the last one", Edges.told(EdgesOfAnswersTest::some).odds(2), 1000000);
    }

    /** Applications in all states but APPLIED, and for each one that is APPLIED for the same day. */
    private static void notApplied(ClimbPermits x) {
        Edges.open(x, 9, 0, 4);
        x.set(Edges.SHIFT, 0);
        Edges.won(x, 0, 0, 0, 1);
        Edges.won(x, 1, 0, 0, 1);
        x.show(0);
        x.end();
        Edges.won(x, 0, 0, 8, 1);
        x.close(8);
        Edges.won(x, 0, 0, 9, 1);
        Edges.won(x, 1, 0, 9, 1);
        x.cancel(4);
        x.buffer(0, 9);
        Edges.lost(x, 2, 0, 9, 1);
        x.buffer(0, 0);
        x.apply(3, 0, 9, 1);
    }

    private static void oddsNotApplied() {
        int[] states = {Edges.USED, Edges.NOT_USED, Edges.REFUNDED, Edges.WON, Edges.CANCELLED, Edges.LOST};
        for (int i = 0; i < states.length; i++) {
            int application = i;
            edges.due("the state", Edges.told(EdgesOfAnswersTest::notApplied).application(i, 4), states[i]);
            edges.refused("state " + states[i], Edges.NOT_POSSIBLE, EdgesOfAnswersTest::notApplied, x -> x.odds(application));
        }
        edges.due("one that is APPLIED", Edges.told(EdgesOfAnswersTest::notApplied).odds(6), 1000000);
    }

    /** The climbers apply for the day 5 and the days beside it, and the first one is barred up to a day then. */
    private static Edges.Story barredUpTo(int day) {
        return x -> {
            Edges.open(x, 1, 0, 2);
            x.apply(0, 0, 5, 1);
            x.apply(1, 0, 5, 1);
            Edges.bar(x, 0, 0, day);
        };
    }

    private static void oddsBarred() {
        edges.due("up to the day before", Edges.told(barredUpTo(4)).odds(0), 500000);
        edges.refused("up to that day", Edges.NOT_POSSIBLE, barredUpTo(5), x -> x.odds(0));
        edges.refused("up to a later day", Edges.NOT_POSSIBLE, barredUpTo(6), x -> x.odds(0));
        edges.due("the other one then", Edges.told(barredUpTo(5)).odds(1), 1000000);
        edges.due("the other one before", Edges.told(barredUpTo(4)).odds(1), 500000);
    }

    // ---- tries

    /** Four climbers with memories apply for three places of a day; the first application of the day is returned. */
    private static int fourApply(ClimbPermits x, int seed) {
        Edges.open(x, 4, 1, 4);
        for (int climber = 0; climber < 4; climber++) {
            Edges.lose(x, climber, 0, 10 + 5 * climber, climber);
        }
        int first = x.count(3);
        for (int climber = 0; climber < 4; climber++) {
            x.apply(climber, 0, 5, 1 + climber % 3);
        }
        x.set(Edges.SEED, seed);
        return first;
    }

    /** How often it is WON if the lottery is held, and all is restored but SEED; at most 50 times. */
    private static int held(int seed, int climber, int times) {
        ClimbPermits x = new ClimbPermits();
        int application = fourApply(x, seed) + climber;
        x.save(0);
        int won = 0;
        for (int i = 0; i < times; i++) {
            x.lottery(0, 5);
            won += x.application(application, 4) == Edges.WON ? 1 : 0;
            int goesOn = x.count(20);
            x.restore(0);
            x.set(Edges.SEED, goesOn);
        }
        return won;
    }

    private static void triesAsHeld() {
        for (int seed : new int[] {0, 1, 4711, 65535}) {
            for (int climber = 0; climber < 4; climber++) {
                for (int times : new int[] {1, 2, 3, 10, 50}) {
                    ClimbPermits x = new ClimbPermits();
                    int application = fourApply(x, seed) + climber;
                    edges.due("climber " + climber + ", " + times + " times from " + seed, x.tries(application, times),
                            held(seed, climber, times));
                }
            }
        }
    }

    private static void triesChangeNothing() {
        ClimbPermits x = new ClimbPermits();
        int first = fourApply(x, 1);
        int before = x.tries(first, 200);
        edges.due("SEED", x.count(20), 1);
        for (int i = 0; i < 4; i++) {
            edges.due("state", x.application(first + i, 4), Edges.APPLIED);
            edges.due("memory", x.climber(i, 0), i);
        }
        edges.due("nothing paid", x.count(11), 0);
        edges.due("asked again", x.tries(first, 200), before);
        edges.due("what was LOST before", x.count(6), 6);
        ClimbPermits other = new ClimbPermits();
        fourApply(other, 1);
        edges.due("the lottery", x.lottery(0, 5), other.lottery(0, 5));
        edges.due("and what it draws", x.count(20), other.count(20));
        for (int i = 0; i < 4; i++) {
            edges.due("state behind it", x.application(first + i, 4), other.application(first + i, 4));
        }
    }

    private static void triesTimes() {
        ClimbPermits x = Edges.office(1, 0, 2);
        x.apply(0, 0, 5, 1);
        for (int times = 1; times <= 200; times++) {
            edges.due("alone, " + times + " times", x.tries(0, times), times);
        }
        edges.due("0", x.tries(0, 0), Edges.BAD_VALUE);
        edges.due("201", x.tries(0, 201), Edges.BAD_VALUE);
        x.buffer(0, 1);
        edges.due("without places", x.tries(0, 200), 0);
    }

    private static void triesBarred() {
        edges.due("barred up to that day", Edges.told(barredUpTo(5)).tries(0, 200), 0);
        edges.due("barred up to a later day", Edges.told(barredUpTo(6)).tries(0, 1), 0);
        edges.due("the other one then", Edges.told(barredUpTo(5)).tries(1, 200), 200);
        ClimbPermits before = Edges.told(barredUpTo(4));
        int own = before.tries(0, 200);
        edges.due("barred up to the day before", own > 0 && own < 200 ? 1 : 0, 1);
        edges.due("the other one", before.tries(1, 200), 200 - own);
        ClimbPermits none = Edges.told(barredUpTo(5));
        none.cancel(1);
        edges.due("barred and alone", none.tries(0, 200), 0);
        edges.due("it stays APPLIED", none.application(0, 4), Edges.APPLIED);
    }

    private static void triesNoSuch() {
        for (int none : new int[] {Edges.LOW, -1, 3, 40, Edges.HIGH}) {
            edges.refused("application " + none, Edges.NO_SUCH, EdgesOfAnswersTest::some, x -> x.tries(none, 1));
        }
        edges.due("the last one", Edges.told(EdgesOfAnswersTest::some).tries(2, 1), 1);
    }

    private static void triesBadValue() {
        for (int times : new int[] {Edges.LOW, -1, 0, 201, 202, Edges.HIGH}) {
            edges.refused(times + " times", Edges.BAD_VALUE, EdgesOfAnswersTest::some, x -> x.tries(2, times));
        }
    }

    private static void triesNotPossible() {
        for (int i = 0; i < 6; i++) {
            int application = i;
            edges.refused("application " + i, Edges.NOT_POSSIBLE, EdgesOfAnswersTest::notApplied, x -> x.tries(application, 1));
        }
        Edges.Story applied = x -> {
            Edges.open(x, 1, 0, 1);
            x.apply(0, 0, 0, 1);
            x.apply(0, 0, 1, 1);
            x.apply(0, 0, 2, 1);
        };
        edges.due("today", Edges.told(applied).tries(0, 200), 200);
        edges.refused("before today", Edges.NOT_POSSIBLE, x -> {
            applied.tell(x);
            x.end();
        }, x -> x.tries(0, 1));
        edges.refused("closed", Edges.NOT_POSSIBLE, x -> {
            applied.tell(x);
            x.close(2);
        }, x -> x.tries(2, 1));
        ClimbPermits other = Edges.told(applied);
        other.close(2);
        other.end();
        edges.due("of the day that is today now", other.tries(1, 200), 200);
    }
}
