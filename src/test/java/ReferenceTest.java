import java.util.ArrayList;
import java.util.List;
import java.util.Random;

/**
 * Runs of calls, chosen at random from fixed seeds, on ClimbPermits and on the Reference side by side.
 * Nothing is promised behind the 512th call of an object: so the choice goes by the Reference, and what comes out
 * of a shorter run is compared on new objects that are brought to its end again.
 */
public final class ReferenceTest {
    private static final int RUNS = 1500, CALLS = 512, CALLS_TO_COMPARE = 250;
    private static final Checks checks = new Checks();

    private ReferenceTest() {
    }

    public static void main(String[] args) {
        // How often each kind of call answered without an error, and with one: a kind that never did is not tested.
        int[] answered = new int[Call.NAMES.length];
        int[] refused = new int[Call.NAMES.length];
        for (int run = 0; run < RUNS && !checks.anyWrong(); run++) {
            oneRun(run, CALLS, answered, refused);
            oneRun(RUNS + run, CALLS - CALLS_TO_COMPARE, answered, refused);
        }
        for (int what = 0; what < Call.NAMES.length; what++) {
            String name = Call.NAMES[what];
            checks.holds(name + " has to answer often, did " + answered[what], answered[what] > 300);
            boolean neverRefuses = name.equals("wipe") || name.equals("fault");
            checks.holds(name + " has to be refused often, was " + refused[what], neverRefuses || refused[what] > 100);
        }
        checks.close();
    }

    private static void oneRun(int run, int most, int[] answered, int[] refused) {
        Random random = new Random(run);
        ClimbPermits office = new ClimbPermits();
        Reference reference = new Reference();
        List<Call> calls = new ArrayList<>();
        int spread = 2 + random.nextInt(random.nextBoolean() ? 4 : 14);
        int haste = random.nextInt(4) == 0 ? 15 : 0;
        int length = most == CALLS ? CALLS : 30 + random.nextInt(most - 30);
        for (int i = 0; i < length; i++) {
            Call call = Call.random(random, Call.seen(reference), spread, haste);
            int got = call.on(office);
            checks.due("run " + run + ", call " + i + ": " + call, got, call.on(reference));
            calls.add(call);
            if (got >= 0) {
                answered[call.what]++;
            } else {
                refused[call.what]++;
            }
        }
        if (most < CALLS) {
            compareAll("end of run " + run + ": ", calls, reference);
        }
    }

    private static ClimbPermits again(List<Call> calls) {
        ClimbPermits office = new ClimbPermits();
        for (Call call : calls) {
            call.on(office);
        }
        return office;
    }

    /** Each part asks at most CALLS_TO_COMPARE times. */
    private static void compareAll(String at, List<Call> calls, Reference reference) {
        compareNumbers(at, again(calls), reference);
        for (int from = 0; from < reference.count(3); from += 20) {
            compareApplications(at, again(calls), reference, from);
        }
        for (int route = 0; route < reference.count(1); route++) {
            compareDays(at, again(calls), reference, route, 0);
            compareDays(at, again(calls), reference, route, 30);
        }
    }

    private static void compareNumbers(String at, ClimbPermits office, Reference reference) {
        for (int what = -1; what <= 21; what++) {
            checks.due(at + "count " + what, office.count(what), reference.count(what));
        }
        checks.due(at + "fault", office.fault(), reference.fault());
        for (int climber = 0; climber < reference.count(2); climber++) {
            for (int what = 0; what <= 6; what++) {
                checks.due(at + "climber " + climber + " " + what, office.climber(climber, what),
                        reference.climber(climber, what));
            }
        }
    }

    private static void compareApplications(String at, ClimbPermits office, Reference reference, int from) {
        for (int application = from; application < from + 20 && application < reference.count(3); application++) {
            for (int what = 0; what <= 9; what++) {
                checks.due(at + "application " + application + " " + what, office.application(application, what),
                        reference.application(application, what));
            }
            checks.due(at + "odds " + application, office.odds(application), reference.odds(application));
            checks.due(at + "tries " + application, office.tries(application, 5), reference.tries(application, 5));
        }
    }

    private static void compareDays(String at, ClimbPermits office, Reference reference, int route, int from) {
        for (int day = from; day < from + 30; day++) {
            for (int what = 0; what <= 5; what++) {
                checks.due(at + "route " + route + " " + day + " " + what, office.onRoute(route, day, what),
                        reference.onRoute(route, day, what));
            }
            checks.due(at + "waiting " + route + " " + day, office.nextWaiting(route, day),
                    reference.nextWaiting(route, day));
        }
    }
}
