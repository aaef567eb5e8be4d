/** The edges in "What it is", CONVENTIONS, "Days, routes, climbers", Settings and Applications of the document. */
public final class EdgesOfTermsTest {
    private static final Edges edges = new Edges();

    private EdgesOfTermsTest() {
    }

    public static void main(String[] args) {
        edges.test("What it is", "An object is used for at most 512 calls after it has been made", EdgesOfTermsTest::lastCall);
        String terms = "Terms";
        edges.test(terms, "A method that fails returns one of the error codes NO_SUCH (-1), BAD_VALUE (-2), BAD_TEXT (-3), "
                + "TOO_MANY (-4) and NOT_POSSIBLE (-5)", EdgesOfTermsTest::errorCodes);
        edges.test(terms, "it names its errors in the order in which they are checked, and the first one that applies is "
                + "returned.", EdgesOfTermsTest::orderOfErrors);
        edges.test(terms, "A call that returns an error changes nothing.", EdgesOfTermsTest::errorsChangeNothing);
        edges.test(terms, "NONE (-6) is not an error; it is returned only if no error applies.", EdgesOfTermsTest::none);
        edges.test(terms, "Divisions are rounded down.", EdgesOfTermsTest::divisions);
        edges.test(terms, "Everything is numbered from 0.", EdgesOfTermsTest::numbers);
        edges.test(terms, "The days are 0 to 59;", EdgesOfTermsTest::days);
        edges.test(terms, "today is the day 0 at first.", EdgesOfTermsTest::firstDay);
        edges.test(terms, "A day can be closed for all routes.", EdgesOfTermsTest::closedForAllRoutes);
        edges.test(terms, "There are up to 6 routes;", EdgesOfTermsTest::routes);
        edges.test(terms, "a route has a limit of places for each day (1 to 12),", EdgesOfTermsTest::limits);
        edges.test(terms, "and a buffer (0 to its limit): places that are not given by lotteries.", EdgesOfTermsTest::buffers);
        edges.test(terms, "There are up to 12 climbers;", EdgesOfTermsTest::climbers);
        edges.test(terms, "each has a memory (lotteries lost, 0 at first), strikes (0 at first),", EdgesOfTermsTest::newClimber);
        edges.test(terms, "and can be barred up to a day.", EdgesOfTermsTest::barredUpToADay);
        edges.test(terms, "FEE (1 to 1000; 100): for each place.", EdgesOfTermsTest::fee);
        edges.test(terms, "MEMORY (0 to 9; 1): tickets for each lottery that was lost.", EdgesOfTermsTest::memory);
        edges.test(terms, "STRIKES (1 to 5; 2): with so many a climber is barred.", EdgesOfTermsTest::strikes);
        edges.test(terms, "BAR (0 to 30; 10): for how many days.", EdgesOfTermsTest::bar);
        edges.test(terms, "SHIFT (0 to 10; 3): how many days later a permit can move.", EdgesOfTermsTest::shift);
        edges.test(terms, "SEED (0 to 65535; 1): where draws go on.", EdgesOfTermsTest::seed);
        edges.test(terms, "There are up to 40 applications, in the order in which they were made; they are never removed.",
                EdgesOfTermsTest::applications);
        edges.test(terms, "a party (1 to 4 places),", EdgesOfTermsTest::parties);
        edges.test(terms, "and a state: APPLIED (0), WON (1), which is a permit; LOST (2), which waits; CANCELLED (3), REFUNDED (4), "
                + "USED (5), NOT_USED (6).", EdgesOfTermsTest::states);
        edges.test(terms, "It has what was paid for it and what was refunded.", EdgesOfTermsTest::paidAndRefunded);
        edges.test(terms, "The places that are taken on a route and a day are the sum of the parties of its applications that "
                + "are WON, USED or NOT_USED.", EdgesOfTermsTest::placesTaken);
        edges.test(terms, "A permit is given to an application: it becomes WON, and FEE * party is paid for it.",
                EdgesOfTermsTest::permitGiven);
        edges.close();
    }

    // ---- what it is

    /** Ten calls, behind which each kind of call answers without an error. */
    private static void tenCalls(ClimbPermits x) {
        Edges.open(x, 3, 2, 2);
        x.apply(0, 0, 5, 1);
        x.apply(1, 0, 0, 2);
        x.lottery(0, 0);
        x.apply(0, 0, 0, 1);
        x.lottery(0, 0);
        x.put(Edges.packed("c1r0d9"));
        x.save(0);
    }

    private static void lastCall() {
        asLastCall("route", x -> x.route(1, 0), 1);
        asLastCall("buffer", x -> x.buffer(0, 0), 2);
        asLastCall("join", x -> x.join(), 2);
        asLastCall("set", x -> x.set(Edges.FEE, 7), 100);
        asLastCall("apply", x -> x.apply(1, 0, 6, 1), 3);
        asLastCall("lottery", x -> x.lottery(0, 5), 1);
        asLastCall("cancel", x -> x.cancel(2), 0);
        asLastCall("close", x -> x.close(0), 1);
        asLastCall("standby", x -> x.standby(1), 200);
        asLastCall("show", x -> x.show(2), 1);
        asLastCall("end", x -> x.end(), 1);
        asLastCall("onRoute", x -> x.onRoute(0, 5, 4), 1);
        asLastCall("climber", x -> x.climber(0, 6), 2);
        asLastCall("application", x -> x.application(0, 2), 5);
        asLastCall("count", x -> x.count(3), 3);
        asLastCall("nextWaiting", x -> x.nextWaiting(0, 5), Edges.NONE);
        asLastCall("odds", x -> x.odds(0), 1000000);
        asLastCall("tries", x -> x.tries(0, 200), 200);
        asLastCall("put", x -> x.put('x'), 7);
        asLastCall("wipe", x -> x.wipe(), 6);
        asLastCall("fault", x -> x.fault(), Edges.NONE);
        asLastCall("load", x -> x.load(), 1);
        asLastCall("save", x -> x.save(1), 0);
        asLastCall("restore", x -> x.restore(0), 0);
    }

    private static void asLastCall(String name, Edges.Asked call, int due) {
        ClimbPermits x = Edges.told(EdgesOfTermsTest::tenCalls);
        for (int calls = 10; calls < 511; calls++) {
            x.tries(0, 200);
        }
        edges.due(name + " as the call 512", call.of(x), due);
    }

    // ---- conventions

    /** An office with applications in all states, a day that is closed, and a climber who is barred up to the day 10. */
    private static void busy(ClimbPermits x) {
        Edges.open(x, 3, 1, 4);
        x.route(2, 0);
        x.set(Edges.STRIKES, 1);
        x.set(Edges.FEE, 33);
        Edges.won(x, 0, 0, 0, 1);
        x.show(0);
        Edges.won(x, 1, 1, 0, 1);
        x.apply(1, 0, 7, 1);
        x.end();
        Edges.won(x, 0, 0, 5, 2);
        Edges.lost(x, 2, 0, 5, 2);
        x.apply(3, 0, 5, 1);
        x.apply(2, 1, 6, 1);
        x.cancel(6);
        x.set(Edges.SHIFT, 0);
        Edges.won(x, 3, 1, 9, 2);
        x.close(9);
        x.save(0);
        Edges.write(x, "c0r1d8;c0r");
    }

    /** As busy, with as much of all as there can be. */
    private static void crowded(ClimbPermits x) {
        busy(x);
        for (int i = 2; i < 6; i++) {
            x.route(1, 0);
        }
        for (int i = 4; i < 12; i++) {
            x.join();
        }
        for (int i = 8; i < 40; i++) {
            x.apply(4 + i % 8, i % 6, 10 + i, 1);
        }
        Edges.write(x, "abcdefghijklmnopqrstuvwxyzABCDEFGHIJKLMNOPQRSTUVWX");
    }

    private static void lastDay(ClimbPermits x) {
        crowded(x);
        Edges.endDays(x, 58);
    }

    private static void errorCodes() {
        edges.due("NO_SUCH", ClimbPermits.NO_SUCH, -1);
        edges.due("BAD_VALUE", ClimbPermits.BAD_VALUE, -2);
        edges.due("BAD_TEXT", ClimbPermits.BAD_TEXT, -3);
        edges.due("TOO_MANY", ClimbPermits.TOO_MANY, -4);
        edges.due("NOT_POSSIBLE", ClimbPermits.NOT_POSSIBLE, -5);
        ClimbPermits x = Edges.told(EdgesOfTermsTest::crowded);
        edges.due("there is none", x.cancel(40), -1);
        edges.due("a bad value", x.set(6, 0), -2);
        edges.due("a bad text", x.load(), -3);
        edges.due("too many", x.join(), -4);
        edges.due("not possible", x.close(9), -5);
    }

    private static void orderOfErrors() {
        ClimbPermits x = Edges.told(EdgesOfTermsTest::crowded);
        edges.due("a limit of 0 before too many", x.route(0, 0), Edges.BAD_VALUE);
        edges.due("a buffer above the limit before too many", x.route(3, 4), Edges.BAD_VALUE);
        edges.due("buffer: no such route before a bad value", x.buffer(6, -1), Edges.NO_SUCH);
        edges.due("apply: no such climber before a bad value", x.apply(12, 0, 20, 0), Edges.NO_SUCH);
        edges.due("apply: no such route before a bad value", x.apply(0, 6, 20, 5), Edges.NO_SUCH);
        edges.due("apply: no such day before a bad value", x.apply(0, 0, 60, 0), Edges.NO_SUCH);
        edges.due("apply: the day -1 is none before it is over", x.apply(0, 0, -1, 1), Edges.NO_SUCH);
        edges.due("apply: a bad value before a day that is over", x.apply(0, 0, 0, 5), Edges.BAD_VALUE);
        edges.due("apply: a bad value before a closed day", x.apply(0, 0, 9, 0), Edges.BAD_VALUE);
        edges.due("apply: a bad value before a second application", x.apply(3, 0, 5, 5), Edges.BAD_VALUE);
        edges.due("apply: a bad value before a bar", x.apply(1, 0, 8, 0), Edges.BAD_VALUE);
        edges.due("apply: a bad value before too many", x.apply(0, 0, 20, 5), Edges.BAD_VALUE);
        edges.due("apply: a day that is over before too many", x.apply(0, 0, 0, 1), Edges.NOT_POSSIBLE);
        edges.due("apply: a closed day before too many", x.apply(0, 0, 9, 1), Edges.NOT_POSSIBLE);
        edges.due("apply: a second application before too many", x.apply(3, 0, 5, 1), Edges.NOT_POSSIBLE);
        edges.due("apply: a bar before too many", x.apply(1, 0, 8, 1), Edges.NOT_POSSIBLE);
        edges.due("lottery: no such route before a day that is over", x.lottery(6, 0), Edges.NO_SUCH);
        edges.due("lottery: no such day before it is over", x.lottery(0, -1), Edges.NO_SUCH);
        edges.due("lottery: no such day before none is APPLIED", x.lottery(0, 60), Edges.NO_SUCH);
        edges.due("close: no such day before it is over", x.close(-1), Edges.NO_SUCH);
        edges.due("onRoute: no such route before a bad value", x.onRoute(6, 0, 6), Edges.NO_SUCH);
        edges.due("onRoute: no such day before a bad value", x.onRoute(0, 60, -1), Edges.NO_SUCH);
        edges.due("climber: no such climber before a bad value", x.climber(12, 7), Edges.NO_SUCH);
        edges.due("application: no such application before a bad value", x.application(40, 10), Edges.NO_SUCH);
        edges.due("tries: no such application before a bad value", x.tries(40, 0), Edges.NO_SUCH);
        edges.due("tries: a bad value before not APPLIED", x.tries(0, 201), Edges.BAD_VALUE);
        edges.due("put: a bad value before too many", x.put(32), Edges.BAD_VALUE);
        edges.due("put: no character before too many", x.put(0), Edges.BAD_VALUE);
        edges.due("restore: a bad value before an empty slot", x.restore(2), Edges.BAD_VALUE);
    }

    private static void errorsChangeNothing() {
        Edges.Story busy = EdgesOfTermsTest::busy;
        edges.refused("route", Edges.BAD_VALUE, busy, x -> x.route(3, 4));
        edges.refused("buffer of no route", Edges.NO_SUCH, busy, x -> x.buffer(2, 0));
        edges.refused("buffer", Edges.BAD_VALUE, busy, x -> x.buffer(1, 3));
        edges.refused("set", Edges.BAD_VALUE, busy, x -> x.set(Edges.SEED, 65536));
        edges.refused("apply by nobody", Edges.NO_SUCH, busy, x -> x.apply(4, 0, 20, 1));
        edges.refused("apply", Edges.BAD_VALUE, busy, x -> x.apply(0, 0, 20, 5));
        edges.refused("apply again", Edges.NOT_POSSIBLE, busy, x -> x.apply(3, 0, 5, 1));
        edges.refused("lottery of no route", Edges.NO_SUCH, busy, x -> x.lottery(2, 5));
        edges.refused("lottery", Edges.NOT_POSSIBLE, busy, x -> x.lottery(0, 20));
        edges.refused("cancel of none", Edges.NO_SUCH, busy, x -> x.cancel(8));
        for (int ended : new int[] {0, 1, 6, 7}) {
            edges.refused("cancel " + ended, Edges.NOT_POSSIBLE, busy, x -> x.cancel(ended));
        }
        edges.refused("close of no day", Edges.NO_SUCH, busy, x -> x.close(60));
        edges.refused("close again", Edges.NOT_POSSIBLE, busy, x -> x.close(9));
        edges.refused("close of a day that is over", Edges.NOT_POSSIBLE, busy, x -> x.close(0));
        edges.refused("standby of none", Edges.NO_SUCH, busy, x -> x.standby(8));
        edges.refused("standby", Edges.NOT_POSSIBLE, busy, x -> x.standby(4));
        edges.refused("show of none", Edges.NO_SUCH, busy, x -> x.show(8));
        edges.refused("show", Edges.NOT_POSSIBLE, busy, x -> x.show(3));
        edges.refused("onRoute of no route", Edges.NO_SUCH, busy, x -> x.onRoute(2, 0, 0));
        edges.refused("onRoute", Edges.BAD_VALUE, busy, x -> x.onRoute(0, 0, 6));
        edges.refused("climber of none", Edges.NO_SUCH, busy, x -> x.climber(4, 0));
        edges.refused("climber", Edges.BAD_VALUE, busy, x -> x.climber(0, 7));
        edges.refused("application of none", Edges.NO_SUCH, busy, x -> x.application(8, 0));
        edges.refused("application", Edges.BAD_VALUE, busy, x -> x.application(0, 10));
        edges.refused("count", Edges.BAD_VALUE, busy, x -> x.count(21));
        edges.refused("nextWaiting", Edges.NO_SUCH, busy, x -> x.nextWaiting(0, 60));
        edges.refused("odds of none", Edges.NO_SUCH, busy, x -> x.odds(8));
        edges.refused("odds", Edges.NOT_POSSIBLE, busy, x -> x.odds(2));
        edges.refused("tries of none", Edges.NO_SUCH, busy, x -> x.tries(8, 1));
        edges.refused("tries", Edges.BAD_VALUE, busy, x -> x.tries(5, 201));
        edges.refused("tries of a permit", Edges.NOT_POSSIBLE, busy, x -> x.tries(3, 200));
        edges.refused("put", Edges.BAD_VALUE, busy, x -> x.put(0x4120L));
        edges.refused("load", Edges.BAD_TEXT, busy, x -> x.load());
        edges.refused("save", Edges.BAD_VALUE, busy, x -> x.save(2));
        edges.refused("restore", Edges.BAD_VALUE, busy, x -> x.restore(-1));
        edges.refused("restore of an empty slot", Edges.NOT_POSSIBLE, busy, x -> x.restore(1));
        Edges.Story crowded = EdgesOfTermsTest::crowded;
        edges.refused("a route too many", Edges.TOO_MANY, crowded, x -> x.route(1, 0));
        edges.refused("a climber too many", Edges.TOO_MANY, crowded, x -> x.join());
        edges.refused("an application too many", Edges.TOO_MANY, crowded, x -> x.apply(0, 0, 20, 1));
        edges.refused("a character too many", Edges.TOO_MANY, crowded, x -> x.put('Y'));
        edges.refused("end of the last day", Edges.NOT_POSSIBLE, EdgesOfTermsTest::lastDay, x -> x.end());
    }

    private static void none() {
        edges.due("NONE", ClimbPermits.NONE, -6);
        ClimbPermits x = Edges.office(1, 0, 1);
        edges.due("nobody waits", x.nextWaiting(0, 0), Edges.NONE);
        edges.due("nobody waits, but there is no such route", x.nextWaiting(1, 0), Edges.NO_SUCH);
        edges.due("nobody waits, but there is no such day", x.nextWaiting(0, 60), Edges.NO_SUCH);
        edges.due("never barred", x.climber(0, 2), Edges.NONE);
        edges.due("never barred, but there is no such climber", x.climber(1, 2), Edges.NO_SUCH);
        Edges.write(x, "c0r0d0");
        edges.due("no fault", x.fault(), Edges.NONE);
        x.end();
        edges.due("a day that is over", x.nextWaiting(0, 0), Edges.NONE);
        edges.due("a day that is over, but there is no such route", x.nextWaiting(1, 0), Edges.NO_SUCH);
        x.close(5);
        edges.due("a closed day, but there is no such route", x.nextWaiting(-1, 5), Edges.NO_SUCH);
    }

    private static void divisions() {
        int[] fees = {1, 2, 3, 999, 1000};
        int[] halves = {0, 1, 1, 499, 500};
        for (int i = 0; i < fees.length; i++) {
            ClimbPermits x = Edges.office(1, 0, 1);
            x.set(Edges.FEE, fees[i]);
            Edges.won(x, 0, 0, 4, 1);
            edges.due("half of " + fees[i], x.cancel(0), halves[i]);
        }
        ClimbPermits x = Edges.office(3, 0, 3);
        for (int climber = 0; climber < 3; climber++) {
            x.apply(climber, 0, 9, 1);
        }
        edges.due("1 of 3", x.odds(0), 333333);
        Edges.lose(x, 0, 0, 20, 1);
        Edges.lose(x, 1, 0, 30, 2);
        edges.due("2 of 6", x.odds(0), 333333);
        edges.due("1 of 6", x.odds(2), 166666);
        x.cancel(0);
        x.cancel(2);
        edges.due("3 of 3", x.odds(1), 1000000);
    }

    private static void numbers() {
        ClimbPermits x = new ClimbPermits();
        edges.due("today", x.count(0), 0);
        edges.due("the first route", x.route(1, 0), 0);
        edges.due("the first climber", x.join(), 0);
        edges.due("the first application", x.apply(0, 0, 0, 1), 0);
        edges.due("the first slot", x.save(0), 0);
        edges.due("the first index of the pad", x.fault(), 0);
        edges.due("the second route", x.route(1, 0), 1);
        edges.due("the second climber", x.join(), 1);
        edges.due("the second application", x.apply(1, 0, 0, 1), 1);
    }

    // ---- days, routes, climbers

    private static void days() {
        ClimbPermits x = Edges.office(2, 0, 2);
        for (int none : new int[] {Edges.LOW, -1, 60, 61, Edges.HIGH}) {
            edges.due("apply for " + none, x.apply(0, 0, none, 1), Edges.NO_SUCH);
            edges.due("lottery of " + none, x.lottery(0, none), Edges.NO_SUCH);
            edges.due("close " + none, x.close(none), Edges.NO_SUCH);
            edges.due("onRoute on " + none, x.onRoute(0, none, 0), Edges.NO_SUCH);
            edges.due("nextWaiting on " + none, x.nextWaiting(0, none), Edges.NO_SUCH);
        }
        edges.due("apply for the first day", x.apply(0, 0, 0, 1), 0);
        edges.due("apply for the last day", x.apply(0, 0, 59, 1), 1);
        edges.due("lottery of the first day", x.lottery(0, 0), 1);
        edges.due("lottery of the last day", x.lottery(0, 59), 1);
        edges.due("onRoute on the first day", x.onRoute(0, 0, 2), 1);
        edges.due("onRoute on the last day", x.onRoute(0, 59, 2), 1);
        edges.due("nextWaiting on the last day", x.nextWaiting(0, 59), Edges.NONE);
        edges.due("close the first day", x.close(0), 1);
        edges.due("close the last day", x.close(59), 0);
        for (int day = 1; day <= 59; day++) {
            edges.due("end of the day before " + day, x.end() < 0 ? 1 : 0, 0);
        }
        edges.due("today is the last day", x.count(0), 59);
    }

    private static void firstDay() {
        ClimbPermits x = Edges.office(2, 1, 1);
        edges.due("today", x.count(0), 0);
        edges.due("apply for today", x.apply(0, 0, 0, 2), 0);
        edges.due("lottery of today", x.lottery(0, 0), 0);
        edges.due("standby of today", x.standby(0), 200);
        edges.due("show of today", x.show(0), 1);
        edges.due("the end of the day 0", x.end(), 0);
        edges.due("is that of today", x.application(0, 4), Edges.USED);
    }

    private static void closedForAllRoutes() {
        ClimbPermits x = Edges.office(2, 0, 1);
        for (int route = 1; route < 6; route++) {
            x.route(2, 0);
        }
        edges.due("close", x.close(5), 0);
        for (int route = 0; route < 6; route++) {
            edges.due("route " + route, x.apply(0, route, 5, 1), Edges.NOT_POSSIBLE);
            edges.due("route " + route + " the day before", x.apply(0, route, 4, 1), 2 * route);
            edges.due("route " + route + " the day behind", x.apply(0, route, 6, 1), 2 * route + 1);
        }
        edges.due("a route that is added later", x.route(1, 0), Edges.TOO_MANY);
        ClimbPermits later = new ClimbPermits();
        edges.due("close without routes", later.close(5), 0);
        later.route(1, 0);
        later.join();
        edges.due("a route that comes later", later.apply(0, 0, 5, 1), Edges.NOT_POSSIBLE);
    }

    private static void routes() {
        ClimbPermits x = new ClimbPermits();
        for (int i = 0; i < 6; i++) {
            edges.due("no route " + i, x.onRoute(i, 0, 0), Edges.NO_SUCH);
            edges.due("route " + i, x.route(i + 1, 0), i);
            edges.due("its limit", x.onRoute(i, 0, 0), i + 1);
        }
        edges.due("a seventh", x.route(1, 0), Edges.TOO_MANY);
        edges.due("six are there", x.count(1), 6);
        edges.due("no route 6", x.onRoute(6, 0, 0), Edges.NO_SUCH);
    }

    private static void limits() {
        for (int limit = 1; limit <= 12; limit++) {
            ClimbPermits x = Edges.office(limit, 0, 12);
            for (int climber = 0; climber < 12; climber++) {
                x.apply(climber, 0, 5, 1);
                x.apply(climber, 0, 6, 1);
            }
            edges.due("a day of the limit " + limit, x.lottery(0, 5), limit);
            edges.due("another day", x.lottery(0, 6), limit);
            edges.due("all are taken", x.onRoute(0, 5, 2), limit);
        }
        ClimbPermits x = new ClimbPermits();
        edges.due("0", x.route(0, 0), Edges.BAD_VALUE);
        edges.due("13", x.route(13, 0), Edges.BAD_VALUE);
    }

    private static void buffers() {
        for (int buffer = 0; buffer <= 4; buffer++) {
            ClimbPermits x = Edges.office(4, buffer, 5);
            for (int climber = 0; climber < 5; climber++) {
                x.apply(climber, 0, 5, 1);
            }
            edges.due("places for a lottery beside " + buffer, x.onRoute(0, 5, 3), 4 - buffer);
            edges.due("permits beside " + buffer, x.lottery(0, 5), 4 - buffer);
        }
        ClimbPermits x = new ClimbPermits();
        edges.due("below 0", x.route(4, -1), Edges.BAD_VALUE);
        edges.due("above the limit", x.route(4, 5), Edges.BAD_VALUE);
    }

    private static void climbers() {
        ClimbPermits x = Edges.office(1, 0, 0);
        for (int i = 0; i < 12; i++) {
            edges.due("no climber " + i, x.apply(i, 0, 5, 1), Edges.NO_SUCH);
            edges.due("climber " + i, x.join(), i);
            edges.due("applies", x.apply(i, 0, 5, 1), i);
        }
        edges.due("a thirteenth", x.join(), Edges.TOO_MANY);
        edges.due("twelve are there", x.count(2), 12);
        edges.due("no climber 12", x.climber(12, 0), Edges.NO_SUCH);
    }

    private static void newClimber() {
        ClimbPermits x = Edges.office(1, 0, 1);
        Edges.lose(x, 0, 0, 5, 3);
        Edges.won(x, 0, 0, 0, 1);
        Edges.lose(x, 0, 0, 10, 2);
        x.end();
        edges.due("lotteries lost behind the one that was won", x.climber(0, 0), 2);
        edges.due("strikes", x.climber(0, 1), 1);
        for (int i = 1; i < 12; i++) {
            x.join();
            edges.due("memory of a new climber " + i, x.climber(i, 0), 0);
            edges.due("strikes of a new climber " + i, x.climber(i, 1), 0);
            edges.due("bar of a new climber " + i, x.climber(i, 2), Edges.NONE);
        }
    }

    private static void barredUpToADay() {
        ClimbPermits x = Edges.office(2, 0, 2);
        Edges.bar(x, 0, 0, 7);
        edges.due("the day before", x.apply(0, 0, 6, 1), Edges.NOT_POSSIBLE);
        edges.due("that day", x.apply(0, 0, 7, 1), Edges.NOT_POSSIBLE);
        edges.due("the day behind it", x.apply(0, 0, 8, 1), 1);
        edges.due("another climber", x.apply(1, 0, 7, 1), 2);
    }

    // ---- settings

    private static void range(int setting, int lowest, int highest, int first) {
        ClimbPermits x = new ClimbPermits();
        edges.due("the first value", x.count(15 + setting), first);
        edges.due("below", x.set(setting, lowest - 1), Edges.BAD_VALUE);
        edges.due("above", x.set(setting, highest + 1), Edges.BAD_VALUE);
        edges.due("far below", x.set(setting, Edges.LOW), Edges.BAD_VALUE);
        edges.due("far above", x.set(setting, Edges.HIGH), Edges.BAD_VALUE);
        edges.due("still the first value", x.set(setting, highest), first);
        edges.due("the highest", x.set(setting, lowest), highest);
        edges.due("the lowest", x.count(15 + setting), lowest);
    }

    private static void fee() {
        range(Edges.FEE, 1, 1000, 100);
        int[] fees = {1, 100, 1000};
        for (int fee : fees) {
            for (int party = 1; party <= 4; party++) {
                ClimbPermits x = Edges.office(4, 0, 1);
                x.set(Edges.FEE, fee);
                Edges.won(x, 0, 0, 5, party);
                edges.due(fee + " for each of " + party, x.application(0, 5), fee * party);
            }
        }
    }

    private static void memory() {
        range(Edges.MEMORY, 0, 9, 1);
        ClimbPermits x = Edges.office(1, 0, 1);
        for (int lost = 0; lost < 4; lost++) {
            int made = x.apply(0, 0, 40 + lost, 1);
            for (int tickets = 0; tickets <= 9; tickets++) {
                x.set(Edges.MEMORY, tickets);
                edges.due(tickets + " for each of " + lost, x.application(made, 9), 1 + tickets * lost);
            }
            Edges.lose(x, 0, 0, 5 + lost, 1);
        }
    }

    /** A climber has permits for today on some routes, and does not use them. */
    private static ClimbPermits notUsed(int strikes, int permits) {
        ClimbPermits x = Edges.office(1, 0, 1);
        x.set(Edges.STRIKES, strikes);
        for (int route = 0; route < permits; route++) {
            if (route > 0) {
                x.route(1, 0);
            }
            Edges.won(x, 0, route, 0, 1);
        }
        edges.due("permits not used", x.end(), permits);
        return x;
    }

    private static void strikes() {
        range(Edges.STRIKES, 1, 5, 2);
        for (int strikes = 1; strikes <= 5; strikes++) {
            ClimbPermits one = notUsed(strikes, strikes);
            edges.due("strikes behind " + strikes, one.climber(0, 1), 0);
            edges.due("barred with " + strikes, one.climber(0, 2), 10);
            ClimbPermits less = notUsed(strikes, strikes - 1);
            edges.due("one less than " + strikes, less.climber(0, 1), strikes - 1);
            edges.due("not barred with one less than " + strikes, less.climber(0, 2), Edges.NONE);
        }
    }

    private static void bar() {
        range(Edges.BAR, 0, 30, 10);
        for (int days : new int[] {0, 1, 10, 30}) {
            ClimbPermits x = Edges.office(1, 0, 1);
            Edges.bar(x, 0, 0, days);
            for (int day = 1; day <= days; day++) {
                edges.due("barred for " + days + ", day " + day, x.apply(0, 0, day, 1), Edges.NOT_POSSIBLE);
            }
            edges.due("behind " + days + " days", x.apply(0, 0, days + 1, 1), 1);
        }
    }

    private static void shift() {
        range(Edges.SHIFT, 0, 10, 3);
        for (int shift = 0; shift <= 10; shift++) {
            for (int closed = 0; closed <= shift; closed++) {
                ClimbPermits x = Edges.office(1, 0, 1);
                x.set(Edges.SHIFT, shift);
                Edges.won(x, 0, 0, 20, 1);
                for (int day = 21; day <= 20 + closed; day++) {
                    x.close(day);
                }
                boolean moves = closed < shift;
                edges.due("moves by " + (closed + 1) + " of " + shift, x.close(20), moves ? 1 : 0);
                edges.due("its day", x.application(0, 2), moves ? 21 + closed : 20);
                edges.due("its state", x.application(0, 4), moves ? Edges.WON : Edges.REFUNDED);
            }
        }
    }

    private static void seed() {
        range(Edges.SEED, 0, 65535, 1);
        ClimbPermits x = Edges.office(1, 0, 1);
        int[] seeds = {0, 1, 65535};
        int[] next = {74, 149, 65461};
        for (int i = 0; i < seeds.length; i++) {
            x.set(Edges.SEED, seeds[i]);
            x.apply(0, 0, 5 + i, 1);
            x.lottery(0, 5 + i);
            edges.due("behind " + seeds[i], x.count(20), next[i]);
        }
        x.apply(0, 0, 9, 1);
        x.lottery(0, 9);
        edges.due("it goes on", x.count(20), Edges.seedBehind(65461));
    }

    // ---- applications

    private static void applications() {
        ClimbPermits x = Edges.office(1, 0, 12);
        for (int i = 0; i < 40; i++) {
            int climber = i * 5 % 12;
            edges.due("application " + i, x.apply(climber, 0, 59 - i, 1 + i % 4), i);
            if (i % 2 == 0) {
                edges.due("cancelled", x.cancel(i), 0);
            }
        }
        edges.due("one more", x.apply(0, 0, 1, 1), Edges.TOO_MANY);
        x.cancel(1);
        edges.due("one that is cancelled makes no room", x.apply(0, 0, 1, 1), Edges.TOO_MANY);
        edges.due("forty are there", x.count(3), 40);
        for (int i = 0; i < 40; i++) {
            edges.due("the climber of " + i, x.application(i, 0), i * 5 % 12);
            edges.due("the day of " + i, x.application(i, 2), 59 - i);
            edges.due("the party of " + i, x.application(i, 3), 1 + i % 4);
            edges.due("the state of " + i, x.application(i, 4), i % 2 == 0 || i == 1 ? Edges.CANCELLED : Edges.APPLIED);
        }
        edges.due("no application 40", x.application(40, 0), Edges.NO_SUCH);
    }

    private static void parties() {
        ClimbPermits x = Edges.office(4, 0, 1);
        for (int party : new int[] {Edges.LOW, -1, 0, 5, Edges.HIGH}) {
            edges.due("a party of " + party, x.apply(0, 0, 5, party), Edges.BAD_VALUE);
        }
        for (int party = 1; party <= 4; party++) {
            edges.due("a party of " + party, x.apply(0, 0, party, party), party - 1);
            edges.due("its permit", x.lottery(0, party), 1);
            edges.due("its places", x.onRoute(0, party, 2), party);
        }
    }

    private static void states() {
        int[] constants = {ClimbPermits.APPLIED, ClimbPermits.WON, ClimbPermits.LOST, ClimbPermits.CANCELLED, ClimbPermits.REFUNDED,
            ClimbPermits.USED, ClimbPermits.NOT_USED};
        for (int state = 0; state < constants.length; state++) {
            edges.due("the constant " + state, constants[state], state);
        }
        ClimbPermits x = Edges.office(3, 0, 1);
        x.apply(0, 0, 0, 1);
        edges.due("when it is made", x.application(0, 4), 0);
        x.lottery(0, 0);
        edges.due("when it won", x.application(0, 4), 1);
        x.end();
        edges.due("when it was not used", x.application(0, 4), 6);
        x.apply(0, 0, 1, 4);
        x.lottery(0, 1);
        edges.due("when it lost", x.application(1, 4), 2);
        x.cancel(1);
        edges.due("when it is cancelled", x.application(1, 4), 3);
        Edges.won(x, 0, 0, 1, 1);
        x.show(2);
        x.end();
        edges.due("when it was used", x.application(2, 4), 5);
        Edges.won(x, 0, 0, 59, 1);
        x.close(59);
        edges.due("when it is refunded", x.application(3, 4), 4);
    }

    private static void paidAndRefunded() {
        ClimbPermits x = Edges.office(4, 0, 1);
        x.set(Edges.FEE, 1000);
        x.apply(0, 0, 59, 4);
        edges.due("nothing at first", x.application(0, 5) + x.application(0, 6), 0);
        x.lottery(0, 59);
        edges.due("paid", x.application(0, 5), 4000);
        edges.due("nothing refunded", x.application(0, 6), 0);
        x.close(59);
        edges.due("refunded", x.application(0, 6), 4000);
        edges.due("what was paid stays", x.application(0, 5), 4000);
        ClimbPermits forty = Edges.office(12, 0, 1);
        forty.set(Edges.FEE, 1000);
        forty.set(Edges.SHIFT, 0);
        for (int day = 0; day < 40; day++) {
            Edges.won(forty, 0, 0, day, 4);
        }
        for (int day = 0; day < 40; day++) {
            forty.close(day);
        }
        edges.due("the most that can be paid", forty.count(11), 160000);
        edges.due("the most that can be refunded", forty.count(12), 160000);
        edges.due("paid by one climber", forty.climber(0, 4), 160000);
        edges.due("refunded to one climber", forty.climber(0, 5), 160000);
    }

    private static void placesTaken() {
        ClimbPermits x = Edges.office(12, 0, 6);
        x.route(12, 0);
        Edges.won(x, 0, 0, 0, 1);
        Edges.won(x, 1, 0, 0, 2);
        Edges.won(x, 2, 1, 0, 4);
        x.show(0);
        edges.due("two that are WON", x.onRoute(0, 0, 2), 3);
        x.end();
        edges.due("one that is USED", x.application(0, 4), Edges.USED);
        edges.due("one that is NOT_USED", x.application(1, 4), Edges.NOT_USED);
        edges.due("both have their places", x.onRoute(0, 0, 2), 3);
        edges.due("the other route", x.onRoute(1, 0, 2), 4);
        edges.due("the next day", x.onRoute(0, 1, 2), 0);
        Edges.won(x, 0, 0, 9, 3);
        x.cancel(3);
        edges.due("one that is CANCELLED", x.onRoute(0, 9, 2), 0);
        x.buffer(0, 12);
        Edges.lost(x, 1, 0, 9, 3);
        edges.due("one that is LOST", x.onRoute(0, 9, 2), 0);
        x.apply(2, 0, 9, 4);
        edges.due("one that is APPLIED", x.onRoute(0, 9, 2), 0);
        x.buffer(0, 0);
        x.set(Edges.SHIFT, 0);
        Edges.won(x, 3, 0, 10, 2);
        x.close(10);
        edges.due("one that is REFUNDED", x.application(6, 4), Edges.REFUNDED);
        edges.due("has no places", x.onRoute(0, 10, 2), 0);
    }

    private static void permitGiven() {
        ClimbPermits x = Edges.office(4, 1, 3);
        Edges.won(x, 0, 0, 0, 3);
        Edges.lost(x, 1, 0, 0, 3);
        Edges.lost(x, 2, 0, 0, 1);
        x.set(Edges.FEE, 7);
        edges.due("paid by FEE as it was", x.application(0, 5), 300);
        edges.due("nothing is paid for one that is LOST", x.application(1, 5), 0);
        edges.due("by standby", x.standby(2), 7);
        edges.due("WON", x.application(2, 4), Edges.WON);
        x.cancel(2);
        x.set(Edges.FEE, 11);
        x.cancel(0);
        edges.due("by the waiting list", x.application(1, 4), Edges.WON);
        edges.due("paid by FEE as it is now", x.application(1, 5), 33);
        x.set(Edges.FEE, 1000);
        edges.due("paid stays", x.application(1, 5), 33);
        edges.due("all that was paid", x.count(11), 300 + 7 + 33);
    }
}
