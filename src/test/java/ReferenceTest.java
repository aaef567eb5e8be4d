import java.util.Random;

/** Runs of 512 calls, chosen at random from fixed seeds, on ClimbPermits and on the Reference side by side. */
public final class ReferenceTest {
    private static final int RUNS = 1500, CALLS = 512;

    private ReferenceTest() {
    }

    public static void main(String[] args) {
        Checks checks = new Checks();
        // How often each kind of call answered without an error, and with one: a kind that never did is not tested.
        int[] answered = new int[Call.NAMES.length];
        int[] refused = new int[Call.NAMES.length];
        for (int run = 0; run < RUNS && !checks.anyWrong(); run++) {
            oneRun(checks, run, answered, refused);
        }
        for (int what = 0; what < Call.NAMES.length; what++) {
            String name = Call.NAMES[what];
            checks.holds(name + " has to answer often, did " + answered[what], answered[what] > 300);
            boolean neverRefuses = name.equals("wipe") || name.equals("fault");
            checks.holds(name + " has to be refused often, was " + refused[what], neverRefuses || refused[what] > 100);
        }
        checks.close();
    }

    private static void oneRun(Checks checks, int run, int[] answered, int[] refused) {
        Random random = new Random(run);
        ClimbPermits office = new ClimbPermits();
        Reference reference = new Reference();
        int spread = 2 + random.nextInt(random.nextBoolean() ? 4 : 14);
        int haste = random.nextInt(4) == 0 ? 15 : 0;
        for (int i = 0; i < CALLS; i++) {
            Call call = Call.random(random, office, spread, haste);
            int got = call.on(office);
            checks.due("run " + run + ", call " + i + ": " + call, got, call.on(reference));
            if (got >= 0) {
                answered[call.what]++;
            } else {
                refused[call.what]++;
            }
        }
        compareAll(checks, run, office, reference);
    }

    private static void compareAll(Checks checks, int run, ClimbPermits office, Reference reference) {
        String at = "end of run " + run + ": ";
        for (int what = -1; what <= 21; what++) {
            checks.due(at + "count " + what, office.count(what), reference.count(what));
        }
        for (int application = 0; application < reference.count(3); application++) {
            for (int what = 0; what <= 9; what++) {
                checks.due(at + "application " + application + " " + what, office.application(application, what),
                        reference.application(application, what));
            }
            checks.due(at + "odds " + application, office.odds(application), reference.odds(application));
        }
        for (int climber = 0; climber < reference.count(2); climber++) {
            for (int what = 0; what <= 6; what++) {
                checks.due(at + "climber " + climber + " " + what, office.climber(climber, what),
                        reference.climber(climber, what));
            }
        }
        for (int route = 0; route < reference.count(1); route++) {
            for (int day = 0; day < 60; day++) {
                for (int what = 0; what <= 5; what++) {
                    checks.due(at + "route " + route + " " + day + " " + what, office.onRoute(route, day, what),
                            reference.onRoute(route, day, what));
                }
                checks.due(at + "waiting " + route + " " + day, office.nextWaiting(route, day),
                        reference.nextWaiting(route, day));
            }
        }
    }
}
