/** For each promise of the document: ordinary inputs, the edges that it names, and wrong inputs. */
public final class PromisesTest {
    private static final int NO_SUCH = -1, BAD_VALUE = -2, BAD_TEXT = -3, TOO_MANY = -4, NOT_POSSIBLE = -5, NONE = -6;
    private static final int APPLIED = 0, WON = 1, LOST = 2, CANCELLED = 3, REFUNDED = 4, USED = 5, NOT_USED = 6;
    private static final int FEE = 0, MEMORY = 1, STRIKES = 2, BAR = 3, SHIFT = 4, SEED = 5;
    private static final int LOW = Integer.MIN_VALUE, HIGH = Integer.MAX_VALUE;
    private static final Checks checks = new Checks();

    private PromisesTest() {
    }

    public static void main(String[] args) {
        newObject();
        route();
        buffer();
        join();
        set();
        apply();
        applyBarredAndFull();
        lotteryErrors();
        lotteryDraws();
        lotteryWithoutThoseDrawn();
        lotteryOfBarred();
        lotteryMemory();
        cancelRefunds();
        cancelWaiting();
        close();
        closeMoves();
        standby();
        show();
        end();
        endStrikes();
        onRoute();
        climber();
        application();
        count();
        nextWaiting();
        odds();
        tries();
        put();
        wipe();
        fault();
        load();
        save();
        restore();
        restoreOverAnother();
        checks.close();
    }

    private static void due(int promise, String what, long got, long want) {
        checks.due("promise " + promise + ": " + what, got, want);
    }

    /** An office with one route and some climbers. */
    private static ClimbPermits office(int limit, int buffer, int climbers) {
        ClimbPermits office = new ClimbPermits();
        due(2, "route", office.route(limit, buffer), 0);
        for (int i = 0; i < climbers; i++) {
            due(4, "join", office.join(), i);
        }
        return office;
    }

    /** Applies, holds the lottery, and tells the state that came out. */
    private static int applyAndDraw(ClimbPermits office, int climber, int day, int party) {
        int made = office.apply(climber, 0, day, party);
        office.lottery(0, day);
        return office.application(made, 4);
    }

    private static void endDays(ClimbPermits office, int days) {
        for (int i = 0; i < days; i++) {
            office.end();
        }
    }

    /** Appends a text of any length to the pad; the last answer of put. */
    private static int write(ClimbPermits office, String text) {
        int answer = 0;
        for (int from = 0; from < text.length(); from += 8) {
            answer = office.put(packed(text.substring(from, Math.min(from + 8, text.length()))));
        }
        return answer;
    }

    private static long packed(String text) {
        long packed = 0;
        for (int i = 0; i < text.length(); i++) {
            packed = packed << 8 | text.charAt(i);
        }
        return packed;
    }

    private static void newObject() {
        ClimbPermits office = new ClimbPermits();
        for (int what = 0; what <= 14; what++) {
            due(1, "count(" + what + ")", office.count(what), 0);
        }
        int[] first = {100, 1, 2, 10, 3, 1};
        for (int setting = 0; setting < 6; setting++) {
            due(1, "setting " + setting, office.count(15 + setting), first[setting]);
        }
        due(1, "no route", office.onRoute(0, 0, 0), NO_SUCH);
        due(1, "no climber", office.climber(0, 0), NO_SUCH);
        due(1, "no application", office.application(0, 0), NO_SUCH);
        ClimbPermits other = new ClimbPermits();
        office.join();
        due(1, "two objects share nothing", other.count(2), 0);
    }

    private static void route() {
        ClimbPermits office = new ClimbPermits();
        due(2, "limit 0", office.route(0, 0), BAD_VALUE);
        due(2, "limit 13", office.route(13, 0), BAD_VALUE);
        due(2, "lowest limit", office.route(LOW, 0), BAD_VALUE);
        due(2, "highest limit", office.route(HIGH, 0), BAD_VALUE);
        due(2, "buffer -1", office.route(5, -1), BAD_VALUE);
        due(2, "buffer above the limit", office.route(5, 6), BAD_VALUE);
        due(2, "nothing was added", office.count(1), 0);
        due(2, "smallest", office.route(1, 0), 0);
        due(2, "greatest", office.route(12, 12), 1);
        due(2, "its limit", office.onRoute(1, 0, 0), 12);
        due(2, "its buffer", office.onRoute(1, 0, 1), 12);
        for (int i = 2; i < 6; i++) {
            due(2, "route " + i, office.route(i, 1), i);
        }
        due(2, "the seventh", office.route(1, 0), TOO_MANY);
        due(2, "a bad value goes before too many", office.route(0, 0), BAD_VALUE);
        due(2, "six routes", office.count(1), 6);
    }

    private static void buffer() {
        ClimbPermits office = office(4, 1, 2);
        due(3, "no such route", office.buffer(1, 0), NO_SUCH);
        due(3, "route -1", office.buffer(-1, 0), NO_SUCH);
        due(3, "no such route goes first", office.buffer(1, -1), NO_SUCH);
        due(3, "buffer -1", office.buffer(0, -1), BAD_VALUE);
        due(3, "buffer above the limit", office.buffer(0, 5), BAD_VALUE);
        due(3, "previous", office.buffer(0, 4), 1);
        due(3, "previous again", office.buffer(0, 0), 4);
        due(3, "a permit", applyAndDraw(office, 0, 5, 4), WON);
        due(3, "to the limit", office.buffer(0, 4), 0);
        due(3, "permits stay", office.application(0, 4), WON);
        due(3, "places left are 0 at least", office.onRoute(0, 5, 3), 0);
        due(3, "nothing fits below 0", applyAndDraw(office, 1, 5, 1), LOST);
    }

    private static void join() {
        ClimbPermits office = office(1, 0, 12);
        due(4, "the thirteenth", office.join(), TOO_MANY);
        due(4, "twelve climbers", office.count(2), 12);
        due(4, "memory", office.climber(11, 0), 0);
        due(4, "strikes", office.climber(11, 1), 0);
        due(4, "bar", office.climber(11, 2), NONE);
    }

    private static void set() {
        int[] lowest = {1, 0, 1, 0, 0, 0};
        int[] highest = {1000, 9, 5, 30, 10, 65535};
        int[] first = {100, 1, 2, 10, 3, 1};
        ClimbPermits office = new ClimbPermits();
        for (int i = 0; i < 6; i++) {
            due(5, "below " + i, office.set(i, lowest[i] - 1), BAD_VALUE);
            due(5, "above " + i, office.set(i, highest[i] + 1), BAD_VALUE);
            due(5, "far below " + i, office.set(i, LOW), BAD_VALUE);
            due(5, "far above " + i, office.set(i, HIGH), BAD_VALUE);
            due(5, "first of " + i, office.set(i, lowest[i]), first[i]);
            due(5, "lowest of " + i, office.set(i, highest[i]), lowest[i]);
            due(5, "highest of " + i, office.count(15 + i), highest[i]);
        }
        due(5, "setting -1", office.set(-1, 1), BAD_VALUE);
        due(5, "setting 6", office.set(6, 1), BAD_VALUE);
        due(5, "lowest setting", office.set(LOW, 1), BAD_VALUE);
        due(5, "highest setting", office.set(HIGH, 1), BAD_VALUE);
    }

    private static void apply() {
        ClimbPermits office = office(2, 0, 2);
        due(6, "climber 2", office.apply(2, 0, 0, 1), NO_SUCH);
        due(6, "climber -1", office.apply(-1, 0, 0, 1), NO_SUCH);
        due(6, "route 1", office.apply(0, 1, 0, 1), NO_SUCH);
        due(6, "route -1", office.apply(0, -1, 0, 1), NO_SUCH);
        due(6, "day 60", office.apply(0, 0, 60, 1), NO_SUCH);
        due(6, "day -1", office.apply(0, 0, -1, 1), NO_SUCH);
        due(6, "no such day goes before a bad value", office.apply(0, 0, 60, 0), NO_SUCH);
        due(6, "party 0", office.apply(0, 0, 0, 0), BAD_VALUE);
        due(6, "party 5", office.apply(0, 0, 0, 5), BAD_VALUE);
        due(6, "a party that can never fit", office.apply(0, 0, 1, 4), 0);
        due(6, "while it is APPLIED", office.apply(0, 0, 1, 1), NOT_POSSIBLE);
        due(6, "a bad value goes before that", office.apply(0, 0, 1, 5), BAD_VALUE);
        due(6, "another climber", office.apply(1, 0, 1, 2), 1);
        due(6, "another day", office.apply(0, 0, 59, 1), 2);
        office.lottery(0, 1);
        due(6, "it lost", office.application(0, 4), LOST);
        due(6, "it won", office.application(1, 4), WON);
        due(6, "while it is LOST", office.apply(0, 0, 1, 1), NOT_POSSIBLE);
        due(6, "while it is WON", office.apply(1, 0, 1, 1), NOT_POSSIBLE);
        office.cancel(0);
        due(6, "behind a cancelled one", office.apply(0, 0, 1, 1), 3);
        office.route(2, 0);
        due(6, "another route on the same day", office.apply(0, 1, 1, 1), 4);
        office.close(5);
        due(6, "a closed day", office.apply(0, 0, 5, 1), NOT_POSSIBLE);
        office.end();
        due(6, "before today", office.apply(0, 0, 0, 1), NOT_POSSIBLE);
        due(6, "no application was made", office.count(3), 5);
        due(6, "today", office.apply(1, 1, 1, 1), 5);
    }

    private static void applyBarredAndFull() {
        ClimbPermits office = office(2, 0, 12);
        office.set(STRIKES, 1);
        office.set(BAR, 4);
        due(6, "a permit for today", applyAndDraw(office, 0, 0, 1), WON);
        due(6, "not used", office.end(), 1);
        due(6, "barred then", office.apply(0, 0, 4, 1), NOT_POSSIBLE);
        due(6, "not barred any more", office.apply(0, 0, 5, 1), 1);
        for (int i = 2; i < 40; i++) {
            due(6, "application " + i, office.apply(i % 4 + 1, 0, 6 + i / 4, 1), i);
        }
        due(6, "forty", office.count(3), 40);
        due(6, "too many", office.apply(6, 0, 30, 1), TOO_MANY);
        due(6, "not possible goes before too many", office.apply(0, 0, 4, 1), NOT_POSSIBLE);
        due(6, "still forty", office.count(3), 40);

        ClimbPermits moved = office(2, 0, 1);
        moved.set(SHIFT, 1);
        due(6, "a permit that moves", applyAndDraw(moved, 0, 10, 1), WON);
        due(6, "it moves to the next day", moved.close(10), 1);
        due(6, "it is of that day now", moved.apply(0, 0, 11, 1), NOT_POSSIBLE);
    }

    private static void lotteryErrors() {
        ClimbPermits office = office(2, 0, 2);
        due(7, "route 1", office.lottery(1, 0), NO_SUCH);
        due(7, "route -1", office.lottery(-1, 0), NO_SUCH);
        due(7, "day 60", office.lottery(0, 60), NO_SUCH);
        due(7, "day -1", office.lottery(0, -1), NO_SUCH);
        due(7, "no application", office.lottery(0, 0), NOT_POSSIBLE);
        office.apply(0, 0, 0, 1);
        due(7, "one of another day", office.lottery(0, 1), NOT_POSSIBLE);
        office.close(3);
        due(7, "a closed day", office.lottery(0, 3), NOT_POSSIBLE);
        office.end();
        due(7, "before today", office.lottery(0, 0), NOT_POSSIBLE);
        due(7, "no draw was made", office.count(20), 1);
    }

    private static void lotteryDraws() {
        // From SEED 1 the draws are 149, 11249, 57305, 38044, each by (75 * SEED + 74) mod 65537.
        ClimbPermits office = office(3, 1, 4);
        office.apply(0, 0, 5, 2);
        office.apply(1, 0, 5, 1);
        office.apply(2, 0, 5, 2);
        office.apply(3, 0, 6, 1);
        // 149 mod 3 = 2 draws the third, which takes all; 11249 mod 2 = 1 and 57305 mod 1 = 0 lose.
        due(7, "permits given", office.lottery(0, 5), 1);
        due(7, "first", office.application(0, 4), LOST);
        due(7, "second", office.application(1, 4), LOST);
        due(7, "third", office.application(2, 4), WON);
        due(7, "paid by the third", office.application(2, 5), 200);
        due(7, "paid by the first", office.application(0, 5), 0);
        due(7, "a draw for each, also the last and without places", office.count(20), 57305);
        due(7, "that of another day is not in it", office.application(3, 4), APPLIED);
        due(7, "one more draw", office.lottery(0, 6), 1);
        due(7, "SEED behind it", office.count(20), (75 * 57305 + 74) % 65537);

        // A party that does not fit is passed over, and a smaller one behind it still wins.
        ClimbPermits small = office(2, 1, 3);
        small.apply(0, 0, 9, 1);
        small.apply(1, 0, 9, 2);
        // 149 mod 2 = 1 draws the second, which does not fit beside the buffer; then the first.
        due(7, "a smaller party behind it", small.lottery(0, 9), 1);
        due(7, "the greater one", small.application(1, 4), LOST);
        due(7, "the smaller one", small.application(0, 4), WON);
        due(7, "places taken are not given again", applyAndDraw(small, 2, 9, 1), LOST);

        // With the tickets 3 and 1: 74 mod 4 = 2 still draws the first, 299 mod 4 = 3 the second.
        for (int seed = 0; seed <= 3; seed += 3) {
            ClimbPermits weighed = withMemories(2);
            weighed.set(SEED, seed);
            weighed.apply(0, 0, 20, 1);
            weighed.apply(1, 0, 20, 1);
            due(7, "tickets", weighed.application(1, 9), 3);
            due(7, "one place", weighed.lottery(0, 20), 1);
            due(7, "drawn with SEED " + seed, weighed.application(seed == 0 ? 1 : 2, 4), WON);
        }
    }

    private static void lotteryWithoutThoseDrawn() {
        ClimbPermits office = office(2, 0, 3);
        office.set(SHIFT, 0);
        applyAndDraw(office, 0, 1, 1);
        office.close(1);
        office.set(SEED, 873);
        for (int climber = 0; climber < 3; climber++) {
            office.apply(climber, 0, 20, 1);
        }
        // 12 mod 5 = 2 draws the first, that has three tickets; then 974 mod 2 = 0 the second, not 974 mod 5.
        due(7, "two places", office.lottery(0, 20), 2);
        due(7, "the first", office.application(1, 4), WON);
        due(7, "the second", office.application(2, 4), WON);
        due(7, "the third", office.application(3, 4), LOST);
    }

    /** A route with one place and some climbers, of whom the first one has a memory of 2. */
    private static ClimbPermits withMemories(int climbers) {
        ClimbPermits office = office(1, 0, climbers);
        office.set(SHIFT, 0);
        due(9, "a permit", applyAndDraw(office, 0, 1, 1), WON);
        due(9, "it is refunded", office.close(1), 0);
        due(9, "memory", office.climber(0, 0), 2);
        return office;
    }

    private static void lotteryOfBarred() {
        ClimbPermits office = office(4, 0, 2);
        office.set(STRIKES, 1);
        office.set(BAR, 5);
        due(7, "a permit for today", applyAndDraw(office, 0, 0, 1), WON);
        office.apply(0, 0, 5, 1);
        office.apply(0, 0, 6, 1);
        due(7, "not used", office.end(), 1);
        due(7, "barred up to the day 5", office.climber(0, 2), 5);
        int seed = office.count(20);
        due(7, "only one who is barred", office.lottery(0, 5), 0);
        due(7, "it is LOST", office.application(1, 4), LOST);
        due(7, "no draw", office.count(20), seed);
        due(7, "the memory stays", office.climber(0, 0), 0);
        due(7, "not barred on the next day", office.lottery(0, 6), 1);

        ClimbPermits both = office(4, 0, 2);
        both.set(STRIKES, 1);
        applyAndDraw(both, 0, 0, 1);
        both.apply(0, 0, 5, 1);
        both.apply(1, 0, 5, 1);
        both.end();
        both.set(SEED, 1);
        due(7, "one of two", both.lottery(0, 5), 1);
        due(7, "the barred one", both.application(1, 4), LOST);
        due(7, "the other one", both.application(2, 4), WON);
        due(7, "one draw", both.count(20), 149);
        due(7, "no memory for the barred one", both.climber(0, 0), 0);
    }

    private static void lotteryMemory() {
        ClimbPermits office = withMemories(3);
        office.apply(0, 0, 20, 2);
        office.apply(1, 0, 20, 1);
        due(7, "permits", office.lottery(0, 20), 1);
        due(7, "who lost has one more", office.climber(0, 0), 3);
        due(7, "who won has none", office.climber(1, 0), 0);
        due(7, "who was not in it", office.climber(2, 0), 0);
        office.apply(0, 0, 21, 1);
        due(7, "tickets", office.application(3, 9), 4);
        office.set(MEMORY, 0);
        due(7, "tickets without memory", office.application(3, 9), 1);
        office.set(MEMORY, 9);
        due(7, "tickets with much memory", office.application(3, 9), 28);
        office.lottery(0, 21);
        due(7, "won, and the memory is gone", office.climber(0, 0), 0);
    }

    private static void cancelRefunds() {
        ClimbPermits office = office(12, 0, 1);
        office.set(FEE, 33);
        due(8, "no application", office.cancel(0), NO_SUCH);
        due(8, "application -1", office.cancel(-1), NO_SUCH);
        int[] days = {9, 8, 5, 4, 2};
        int[] back = {33, 16, 16, 0, 0};
        office.end();
        office.end();
        for (int i = 0; i < days.length; i++) {
            due(8, "a permit", applyAndDraw(office, 0, days[i], 1), WON);
            due(8, "cancelled for the day " + days[i], office.cancel(i), back[i]);
            due(8, "state", office.application(i, 4), CANCELLED);
            due(8, "refunded", office.application(i, 6), back[i]);
            due(8, "paid stays", office.application(i, 5), 33);
            due(8, "cancelled twice", office.cancel(i), NOT_POSSIBLE);
        }
        due(8, "all refunded", office.count(12), 65);
        office.apply(0, 0, 40, 1);
        due(8, "one that is APPLIED", office.cancel(5), 0);
        due(8, "it is CANCELLED", office.application(5, 4), CANCELLED);
        office.buffer(0, 12);
        due(8, "one that lost", applyAndDraw(office, 0, 41, 1), LOST);
        due(8, "one that is LOST", office.cancel(6), 0);
        due(8, "it is CANCELLED, too", office.application(6, 4), CANCELLED);
        due(8, "memory stays", office.climber(0, 0), 1);

        ClimbPermits others = office(1, 0, 1);
        others.set(SHIFT, 0);
        applyAndDraw(others, 0, 1, 1);
        others.close(1);
        due(8, "one that is REFUNDED", others.cancel(0), NOT_POSSIBLE);
        applyAndDraw(others, 0, 0, 1);
        others.show(1);
        others.end();
        due(8, "one that is USED", others.cancel(1), NOT_POSSIBLE);
        applyAndDraw(others, 0, 2, 1);
        others.end();
        others.end();
        due(8, "one that is NOT_USED", others.cancel(2), NOT_POSSIBLE);

        ClimbPermits moved = office(1, 0, 1);
        moved.set(SHIFT, 3);
        applyAndDraw(moved, 0, 4, 1);
        for (int day = 5; day <= 6; day++) {
            moved.close(day);
        }
        due(8, "a permit moves", moved.close(4), 1);
        due(8, "the day as it is now counts", moved.cancel(0), 100);
    }

    private static void cancelWaiting() {
        ClimbPermits office = office(4, 0, 5);
        office.set(SHIFT, 0);
        applyAndDraw(office, 3, 1, 1);
        office.close(1);
        due(8, "a permit for all places", applyAndDraw(office, 0, 9, 4), WON);
        for (int climber = 1; climber <= 4; climber++) {
            office.apply(climber, 0, 9, climber == 3 ? 2 : 1);
        }
        due(8, "nobody fits", office.lottery(0, 9), 0);
        due(8, "memory of the third", office.climber(3, 0), 3);
        due(8, "memory of the others", office.climber(1, 0), 1);
        office.cancel(4);
        due(8, "cancelling one who waits serves nobody", office.application(2, 4), LOST);
        office.buffer(0, 1);
        due(8, "cancelled", office.cancel(1), 400);
        due(8, "greatest memory first", office.application(3 + 1, 4), CANCELLED);
        due(8, "lowest of those left", office.application(2, 4), WON);
        due(8, "and so on", office.application(3, 4), WON);
        due(8, "as long as there are places", office.application(5, 4), WON);
        due(8, "the memory becomes 0", office.climber(1, 0), 0);
        due(8, "the fee of now", office.count(11), 100 + 400 + 300);

        ClimbPermits few = office(2, 0, 4);
        few.set(SHIFT, 0);
        applyAndDraw(few, 2, 1, 1);
        few.close(1);
        applyAndDraw(few, 0, 9, 2);
        few.apply(1, 0, 9, 1);
        few.apply(2, 0, 9, 1);
        few.apply(3, 0, 9, 2);
        few.lottery(0, 9);
        few.buffer(0, 1);
        few.set(FEE, 7);
        due(8, "cancelled with a buffer", few.cancel(1), 200);
        due(8, "not the lowest", few.application(2, 4), LOST);
        due(8, "the greatest memory", few.application(3, 4), WON);
        due(8, "paid", few.application(3, 5), 7);
        due(8, "its memory", few.climber(2, 0), 0);
        due(8, "a memory that stays", few.climber(1, 0), 1);
        due(8, "a party that does not fit", few.application(4, 4), LOST);
        due(8, "again", few.cancel(3), 7);
        due(8, "then the lowest of equal ones", few.application(2, 4), WON);

        ClimbPermits barred = office(1, 0, 3);
        barred.set(STRIKES, 1);
        applyAndDraw(barred, 1, 0, 1);
        applyAndDraw(barred, 0, 9, 1);
        barred.apply(1, 0, 9, 1);
        barred.apply(2, 0, 9, 1);
        barred.lottery(0, 9);
        barred.end();
        barred.cancel(1);
        due(8, "who is barred then waits on", barred.application(2, 4), LOST);
        due(8, "the next one is served", barred.application(3, 4), WON);
    }

    private static void close() {
        ClimbPermits office = office(2, 0, 2);
        due(9, "day 60", office.close(60), NO_SUCH);
        due(9, "day -1", office.close(-1), NO_SUCH);
        office.apply(0, 0, 7, 1);
        due(9, "a day without permits", office.close(7), 0);
        due(9, "APPLIED becomes LOST", office.application(0, 4), LOST);
        due(9, "memories stay", office.climber(0, 0), 0);
        due(9, "closed already", office.close(7), NOT_POSSIBLE);
        office.apply(0, 0, 8, 1);
        due(9, "today", office.close(0), 0);
        due(9, "of another day", office.application(1, 4), APPLIED);
        office.end();
        due(9, "before today", office.close(0), NOT_POSSIBLE);
        due(9, "days that are closed", office.count(13), 2);
        due(9, "the last day", office.close(59), 0);
    }

    private static void closeMoves() {
        ClimbPermits office = office(3, 1, 3);
        office.route(3, 1);
        due(9, "a permit of two", applyAndDraw(office, 0, 4, 2), WON);
        due(9, "a permit of the next day", applyAndDraw(office, 1, 5, 2), WON);
        office.buffer(0, 0);
        due(9, "a permit of one", applyAndDraw(office, 2, 4, 1), WON);
        office.apply(2, 1, 4, 1);
        due(9, "of another route", office.lottery(1, 4), 1);
        office.buffer(0, 1);
        office.set(SHIFT, 2);
        due(9, "all routes move", office.close(4), 3);
        due(9, "where two fit", office.application(0, 2), 6);
        due(9, "into the buffer", office.application(2, 2), 5);
        due(9, "the other route", office.application(3, 2), 5);
        due(9, "the day for which it was made", office.application(0, 8), 4);
        due(9, "it is WON still", office.application(0, 4), WON);
        due(9, "nothing paid more", office.application(0, 5), 200);
        due(9, "memory", office.climber(0, 0), 0);

        due(9, "some are refunded", office.close(6), 1);
        due(9, "the next day", office.application(0, 2), 7);
        office.set(SHIFT, 1);
        due(9, "one of three on its route, and the other route", office.close(5), 0);
        due(9, "the next day is closed", office.application(1, 4), REFUNDED);
        due(9, "all that was paid", office.application(1, 6), 200);
        due(9, "its day stays", office.application(1, 2), 5);
        due(9, "memory increases by 2", office.climber(1, 0), 2);
        due(9, "by 2 for each", office.climber(2, 0), 4);
        due(9, "places", office.onRoute(0, 5, 2), 0);
        due(9, "refunded in all", office.count(12), 400);

        ClimbPermits last = office(1, 0, 3);
        applyAndDraw(last, 0, 58, 1);
        applyAndDraw(last, 1, 57, 1);
        applyAndDraw(last, 2, 59, 1);
        last.set(SHIFT, 10);
        due(9, "no room up to the last day", last.close(57), 0);
        due(9, "the last day has no later one", last.close(59), 0);
        due(9, "refunded", last.application(2, 4), REFUNDED);
        due(9, "58 cannot move to 59", last.close(58), 0);

        ClimbPermits toLast = office(1, 0, 1);
        applyAndDraw(toLast, 0, 58, 1);
        due(9, "to the last day", toLast.close(58), 1);
        due(9, "it is there", toLast.application(0, 2), 59);

        ClimbPermits there = office(1, 0, 1);
        applyAndDraw(there, 0, 0, 1);
        there.show(0);
        due(9, "today", there.close(0), 1);
        due(9, "not there any more", there.application(0, 7), 0);
        due(9, "a day later", there.application(0, 2), 1);
        there.set(SHIFT, 0);
        due(9, "no shift", there.close(1), 0);

        ClimbPermits order = office(2, 0, 2);
        order.set(SHIFT, 1);
        order.buffer(0, 1);
        applyAndDraw(order, 0, 3, 1);
        order.buffer(0, 0);
        applyAndDraw(order, 1, 3, 1);
        order.apply(1, 0, 4, 1);
        order.lottery(0, 4);
        due(9, "one place is left", order.close(3), 1);
        due(9, "the lower one has it", order.application(0, 4), WON);
        due(9, "the higher one has not", order.application(1, 4), REFUNDED);
    }

    private static void standby() {
        ClimbPermits office = office(2, 1, 3);
        due(10, "no application", office.standby(0), NO_SUCH);
        due(10, "application -1", office.standby(-1), NO_SUCH);
        office.apply(0, 0, 0, 2);
        due(10, "not LOST", office.standby(0), NOT_POSSIBLE);
        office.lottery(0, 0);
        due(10, "not beside the buffer", office.application(0, 4), LOST);
        due(10, "also of the buffer", office.standby(0), 200);
        due(10, "a permit", office.application(0, 4), WON);
        due(10, "the memory stays", office.climber(0, 0), 1);
        due(10, "it is WON", office.standby(0), NOT_POSSIBLE);
        due(10, "no place for it", applyAndDraw(office, 1, 0, 1), LOST);
        due(10, "no place", office.standby(1), NOT_POSSIBLE);
        due(10, "of another day", applyAndDraw(office, 1, 1, 2), LOST);
        due(10, "not of today", office.standby(2), NOT_POSSIBLE);
        office.end();
        due(10, "of yesterday", office.standby(1), NOT_POSSIBLE);
        due(10, "of today now", office.standby(2), 200);

        ClimbPermits closed = office(2, 1, 1);
        due(10, "LOST", applyAndDraw(closed, 0, 0, 2), LOST);
        closed.close(0);
        due(10, "a closed day", closed.standby(0), NOT_POSSIBLE);

        ClimbPermits barred = office(2, 1, 1);
        barred.set(STRIKES, 1);
        barred.set(BAR, 1);
        applyAndDraw(barred, 0, 0, 1);
        due(10, "LOST of tomorrow", applyAndDraw(barred, 0, 1, 2), LOST);
        due(10, "LOST of the day behind it", applyAndDraw(barred, 0, 2, 2), LOST);
        barred.end();
        due(10, "barred now", barred.standby(1), NOT_POSSIBLE);
        barred.end();
        due(10, "not barred any more", barred.standby(2), 200);
    }

    private static void show() {
        ClimbPermits office = office(2, 0, 1);
        due(11, "no application", office.show(0), NO_SUCH);
        due(11, "application -1", office.show(-1), NO_SUCH);
        office.apply(0, 0, 0, 1);
        due(11, "not WON", office.show(0), NOT_POSSIBLE);
        office.lottery(0, 0);
        due(11, "not there", office.application(0, 7), 0);
        due(11, "told", office.show(0), 1);
        due(11, "there", office.application(0, 7), 1);
        due(11, "told already", office.show(0), NOT_POSSIBLE);
        applyAndDraw(office, 0, 1, 1);
        due(11, "not of today", office.show(1), NOT_POSSIBLE);
        office.end();
        due(11, "it counted", office.application(0, 4), USED);
        due(11, "USED already", office.show(0), NOT_POSSIBLE);
        due(11, "of today now", office.show(1), 1);
        office.close(1);
        due(11, "moved, of tomorrow", office.show(1), NOT_POSSIBLE);
        office.end();
        due(11, "to be told again", office.show(1), 1);
    }

    private static void end() {
        ClimbPermits office = office(4, 0, 3);
        applyAndDraw(office, 0, 0, 1);
        applyAndDraw(office, 1, 0, 1);
        applyAndDraw(office, 2, 1, 1);
        office.apply(2, 0, 0, 1);
        office.show(1);
        due(12, "not used", office.end(), 1);
        due(12, "today", office.count(0), 1);
        due(12, "NOT_USED", office.application(0, 4), NOT_USED);
        due(12, "USED", office.application(1, 4), USED);
        due(12, "of the next day", office.application(2, 4), WON);
        due(12, "APPLIED becomes LOST", office.application(3, 4), LOST);
        due(12, "memory stays", office.climber(2, 0), 0);
        due(12, "a strike", office.climber(0, 1), 1);
        due(12, "no strike", office.climber(1, 1), 0);
        due(12, "not barred", office.climber(0, 2), NONE);
        due(12, "places stay taken", office.onRoute(0, 0, 2), 2);
        due(12, "paid stays paid", office.count(11), 300);
        for (int day = 1; day < 59; day++) {
            due(12, "end of the day " + day, office.end(), day == 1 ? 1 : 0);
        }
        due(12, "the last day", office.end(), NOT_POSSIBLE);
        due(12, "it is the day 59", office.count(0), 59);
    }

    private static void endStrikes() {
        ClimbPermits office = office(4, 0, 1);
        for (int route = 1; route < 4; route++) {
            office.route(4, 0);
        }
        for (int route = 0; route < 3; route++) {
            office.apply(0, route, 0, 1);
            office.lottery(route, 0);
        }
        office.apply(0, 0, 1, 1);
        office.lottery(0, 1);
        due(12, "three not used", office.end(), 3);
        due(12, "one strike behind the bar", office.climber(0, 1), 1);
        due(12, "barred by the day that ends", office.climber(0, 2), 10);
        office.set(BAR, 0);
        due(12, "one more", office.end(), 1);
        due(12, "strikes are 0", office.climber(0, 1), 0);
        due(12, "a longer bar stays", office.climber(0, 2), 10);

        ClimbPermits longer = office(4, 0, 1);
        longer.set(STRIKES, 3);
        applyAndDraw(longer, 0, 1, 1);
        applyAndDraw(longer, 0, 0, 1);
        longer.end();
        due(12, "one of three", longer.climber(0, 1), 1);
        longer.set(STRIKES, 1);
        longer.set(BAR, 0);
        due(12, "setting it changes nothing", longer.climber(0, 2), NONE);
        longer.end();
        due(12, "so many or more", longer.climber(0, 1), 0);
        due(12, "up to the day that ended", longer.climber(0, 2), 1);
        due(12, "that is over", longer.apply(0, 0, 2, 1), 2);

        ClimbPermits beyond = office(4, 0, 1);
        beyond.set(STRIKES, 1);
        beyond.set(BAR, 30);
        applyAndDraw(beyond, 0, 58, 1);
        endDays(beyond, 59);
        due(12, "a bar beyond the last day", beyond.climber(0, 2), 88);
    }

    private static void onRoute() {
        ClimbPermits office = office(5, 2, 4);
        office.route(5, 0);
        due(13, "route 2", office.onRoute(2, 0, 0), NO_SUCH);
        due(13, "route -1", office.onRoute(-1, 0, 0), NO_SUCH);
        due(13, "day 60", office.onRoute(0, 60, 0), NO_SUCH);
        due(13, "day -1", office.onRoute(0, -1, 0), NO_SUCH);
        due(13, "no such goes first", office.onRoute(2, 0, 6), NO_SUCH);
        due(13, "what 6", office.onRoute(0, 0, 6), BAD_VALUE);
        due(13, "what -1", office.onRoute(0, 0, -1), BAD_VALUE);
        applyAndDraw(office, 0, 3, 2);
        applyAndDraw(office, 1, 3, 2);
        office.apply(2, 0, 3, 1);
        office.apply(3, 0, 3, 1);
        office.apply(3, 1, 3, 1);
        int[] due = {5, 2, 2, 1, 2, 1};
        for (int what = 0; what < due.length; what++) {
            due(13, "what " + what, office.onRoute(0, 3, what), due[what]);
        }
        due(13, "on another day", office.onRoute(0, 4, 4), 0);
        due(13, "on another route", office.onRoute(1, 3, 4), 1);
        due(13, "all are left", office.onRoute(1, 3, 3), 5);
    }

    private static void climber() {
        ClimbPermits office = office(3, 1, 2);
        due(14, "climber 2", office.climber(2, 0), NO_SUCH);
        due(14, "climber -1", office.climber(-1, 0), NO_SUCH);
        due(14, "no such goes first", office.climber(2, 7), NO_SUCH);
        due(14, "what 7", office.climber(0, 7), BAD_VALUE);
        due(14, "what -1", office.climber(0, -1), BAD_VALUE);
        applyAndDraw(office, 1, 9, 1);
        applyAndDraw(office, 0, 9, 1);
        applyAndDraw(office, 0, 10, 2);
        applyAndDraw(office, 0, 3, 1);
        applyAndDraw(office, 0, 11, 3);
        office.cancel(3);
        int[] due = {1, 0, NONE, 2, 400, 50, 4};
        for (int what = 0; what < due.length; what++) {
            due(14, "what " + what, office.climber(0, what), due[what]);
        }
        due(14, "the other one's permits", office.climber(1, 3), 1);
        due(14, "the other one's payments", office.climber(1, 4), 100);
        due(14, "the other one's refunds", office.climber(1, 5), 0);
        due(14, "the other one's applications", office.climber(1, 6), 1);
        office.set(STRIKES, 1);
        endDays(office, 11);
        due(14, "the last day of a bar", office.climber(0, 2), 20);
        endDays(office, 20);
        due(14, "that is over", office.climber(0, 2), 20);
    }

    private static void application() {
        ClimbPermits office = office(3, 1, 2);
        office.route(2, 0);
        due(15, "application 0", office.application(0, 0), NO_SUCH);
        due(15, "application -1", office.application(-1, 0), NO_SUCH);
        due(15, "no such goes first", office.application(0, 10), NO_SUCH);
        office.apply(0, 1, 0, 2);
        office.apply(1, 0, 7, 3);
        office.apply(1, 1, 0, 1);
        due(15, "what 10", office.application(0, 10), BAD_VALUE);
        due(15, "what -1", office.application(0, -1), BAD_VALUE);
        office.set(SEED, 0);
        office.set(MEMORY, 4);
        office.lottery(1, 0);
        office.lottery(0, 7);
        office.show(0);
        int[] first = {0, 1, 0, 2, WON, 200, 0, 1, 0, 1};
        int[] second = {1, 0, 7, 3, LOST, 0, 0, 0, 7, 9};
        for (int what = 0; what < first.length; what++) {
            due(15, "what " + what, office.application(0, what), first[what]);
            due(15, "what " + what + " of the second", office.application(1, what), second[what]);
        }
        office.close(0);
        due(15, "the day", office.application(0, 2), 1);
        due(15, "the day for which it was made", office.application(0, 8), 0);
        office.cancel(0);
        due(15, "tickets of a cancelled one", office.application(0, 9), 1);
    }

    private static void count() {
        ClimbPermits office = office(4, 0, 3);
        office.route(1, 0);
        due(16, "what -1", office.count(-1), BAD_VALUE);
        due(16, "what 21", office.count(21), BAD_VALUE);
        due(16, "lowest what", office.count(LOW), BAD_VALUE);
        due(16, "highest what", office.count(HIGH), BAD_VALUE);
        office.set(SHIFT, 0);
        applyAndDraw(office, 0, 0, 1);
        applyAndDraw(office, 1, 0, 1);
        applyAndDraw(office, 2, 0, 1);
        office.show(0);
        office.end();
        applyAndDraw(office, 0, 5, 2);
        office.close(5);
        applyAndDraw(office, 0, 20, 1);
        applyAndDraw(office, 1, 20, 4);
        applyAndDraw(office, 2, 20, 4);
        office.apply(0, 0, 21, 1);
        for (int day = 22; day < 26; day++) {
            office.apply(0, 0, day, 1);
            office.cancel(office.count(3) - 1);
        }
        write(office, "c0r");
        int[] due = {1, 2, 3, 12, 1, 1, 2, 4, 1, 1, 2, 600, 200, 1, 3, 100, 1, 2, 10, 0};
        for (int what = 0; what < due.length; what++) {
            due(16, "what " + what, office.count(what), due[what]);
        }
        office.set(SEED, 65535);
        due(16, "what 20", office.count(20), 65535);
    }

    private static void nextWaiting() {
        ClimbPermits office = office(2, 1, 4);
        due(17, "route 1", office.nextWaiting(1, 0), NO_SUCH);
        due(17, "route -1", office.nextWaiting(-1, 0), NO_SUCH);
        due(17, "day 60", office.nextWaiting(0, 60), NO_SUCH);
        due(17, "day -1", office.nextWaiting(0, -1), NO_SUCH);
        due(17, "nobody", office.nextWaiting(0, 5), NONE);
        applyAndDraw(office, 0, 5, 1);
        due(17, "one who has won does not wait", office.nextWaiting(0, 5), NONE);
        office.apply(1, 0, 5, 2);
        due(17, "one who applied does not wait", office.nextWaiting(0, 5), NONE);
        office.lottery(0, 5);
        due(17, "a party of two does not fit into one place", office.nextWaiting(0, 5), NONE);
        office.apply(2, 0, 5, 1);
        office.apply(3, 0, 5, 1);
        office.lottery(0, 5);
        due(17, "the lowest of equal ones", office.nextWaiting(0, 5), 2);
        applyAndDraw(office, 3, 6, 4);
        due(17, "the greatest memory", office.nextWaiting(0, 5), 3);
        office.buffer(0, 0);
        due(17, "two places", office.nextWaiting(0, 5), 3);
        office.cancel(3);
        office.cancel(2);
        due(17, "the party of two", office.nextWaiting(0, 5), 1);
        due(17, "asking changes nothing", office.application(1, 4), LOST);
        due(17, "of another day", office.nextWaiting(0, 7), NONE);
        office.close(5);
        due(17, "a closed day", office.nextWaiting(0, 5), NONE);

        ClimbPermits barred = office(1, 0, 2);
        barred.set(STRIKES, 1);
        applyAndDraw(barred, 0, 0, 1);
        barred.apply(0, 0, 4, 1);
        barred.apply(1, 0, 4, 1);
        barred.set(SEED, 1);
        barred.lottery(0, 4);
        due(17, "the second won", barred.application(2, 4), WON);
        due(17, "the first waits", barred.nextWaiting(0, 4), 1);
        barred.end();
        due(17, "barred then", barred.nextWaiting(0, 4), NONE);

        ClimbPermits past = office(1, 0, 1);
        past.apply(0, 0, 0, 1);
        past.end();
        due(17, "it is LOST", past.application(0, 4), LOST);
        due(17, "before today", past.nextWaiting(0, 0), NONE);
    }

    private static void odds() {
        ClimbPermits office = withMemories(3);
        due(18, "application 1", office.odds(1), NO_SUCH);
        due(18, "application -1", office.odds(-1), NO_SUCH);
        due(18, "one that is REFUNDED", office.odds(0), NOT_POSSIBLE);
        office.apply(0, 0, 20, 4);
        due(18, "alone, whether it fits or not", office.odds(1), 1000000);
        office.apply(1, 0, 20, 1);
        office.apply(2, 0, 20, 1);
        office.apply(2, 0, 21, 1);
        due(18, "3 of 5", office.odds(1), 600000);
        due(18, "1 of 5", office.odds(2), 200000);
        office.set(MEMORY, 0);
        due(18, "rounded down", office.odds(1), 333333);
        office.set(MEMORY, 9);
        due(18, "19 of 21", office.odds(1), 904761);
        due(18, "no draw", office.count(20), 149);
        office.lottery(0, 20);
        due(18, "behind the lottery", office.odds(2), NOT_POSSIBLE);

        ClimbPermits barred = office(4, 0, 2);
        barred.set(STRIKES, 1);
        barred.set(BAR, 5);
        applyAndDraw(barred, 0, 0, 1);
        barred.apply(0, 0, 5, 1);
        barred.apply(1, 0, 5, 1);
        barred.apply(0, 0, 6, 1);
        barred.apply(1, 0, 6, 1);
        due(18, "before the bar", barred.odds(2), 500000);
        barred.end();
        due(18, "barred then", barred.odds(1), NOT_POSSIBLE);
        due(18, "the other one alone", barred.odds(2), 1000000);
        due(18, "barred no longer then", barred.odds(4), 500000);
    }

    private static void tries() {
        ClimbPermits office = office(1, 0, 3);
        due(19, "application 0", office.tries(0, 1), NO_SUCH);
        due(19, "application -1", office.tries(-1, 1), NO_SUCH);
        due(19, "no such goes first", office.tries(0, 0), NO_SUCH);
        office.apply(0, 0, 5, 1);
        office.apply(1, 0, 5, 1);
        due(19, "times 0", office.tries(0, 0), BAD_VALUE);
        due(19, "times 201", office.tries(0, 201), BAD_VALUE);
        String before = Snapshot.of(office);
        // 149 mod 2 = 1 draws the second; 11249 goes by; 57305 mod 2 = 1 the second again.
        due(19, "the first, once", office.tries(0, 1), 0);
        due(19, "the second, once", office.tries(1, 1), 1);
        due(19, "the second, twice", office.tries(1, 2), 2);
        int first = office.tries(0, 200);
        due(19, "one of two wins each time", office.tries(1, 200), 200 - first);
        due(19, "as by hand", first, byHand(1, 200));
        checks.holds("promise 19: nothing changes", before.equals(Snapshot.of(office)));
        office.apply(2, 0, 5, 2);
        due(19, "a party that never fits", office.tries(2, 200), 0);
        office.lottery(0, 5);
        due(19, "not APPLIED", office.tries(0, 1), NOT_POSSIBLE);
        due(19, "a bad value goes first", office.tries(0, 201), BAD_VALUE);
        office.apply(0, 0, 6, 1);
        due(19, "alone", office.tries(3, 200), 200);
        office.close(6);
        due(19, "a closed day", office.tries(3, 1), NOT_POSSIBLE);

        ClimbPermits barred = office(1, 0, 1);
        barred.set(STRIKES, 1);
        applyAndDraw(barred, 0, 0, 1);
        barred.apply(0, 0, 10, 1);
        barred.apply(0, 0, 11, 1);
        barred.end();
        due(19, "barred then", barred.tries(1, 200), 0);
        due(19, "times are looked at first", barred.tries(1, 0), BAD_VALUE);
        due(19, "barred no longer then", barred.tries(2, 200), 200);
    }

    /** How often the first of two equal ones is drawn first. */
    private static int byHand(int seed, int times) {
        int found = 0;
        int next = seed;
        for (int i = 0; i < times; i++) {
            next = (75 * next + 74) % 65537;
            found += next % 2 == 0 ? 1 : 0;
            next = (75 * next + 74) % 65537;
        }
        return found;
    }

    private static void put() {
        ClimbPermits office = new ClimbPermits();
        due(20, "no character", office.put(0), BAD_VALUE);
        due(20, "code 32", office.put(32), BAD_VALUE);
        due(20, "code 127", office.put(127), BAD_VALUE);
        due(20, "code 255", office.put(255), BAD_VALUE);
        due(20, "code 33", office.put(33), 1);
        due(20, "code 126", office.put(126), 2);
        due(20, "a hole", office.put(0x410041L), BAD_VALUE);
        due(20, "a hole at the end", office.put(0x4100L), BAD_VALUE);
        due(20, "a bit far above", office.put(1L << 63 | 65), BAD_VALUE);
        due(20, "all bits", office.put(-1), BAD_VALUE);
        due(20, "a bad code behind a good one", office.put(0x2041L), BAD_VALUE);
        due(20, "nothing was put", office.count(14), 2);
        due(20, "two", office.put(packed("c1")), 4);
        due(20, "seven", office.put(packed("abcdefg")), 11);
        due(20, "eight", office.put(packed("abcdefgh")), 19);
        for (int i = 0; i < 5; i++) {
            due(20, "eight more", office.put(packed("~~~~~~~~")), 27 + 8 * i);
        }
        due(20, "too many", office.put(packed("abcd") << 8 | 'e' | (long) 'f' << 40), TOO_MANY);
        due(20, "a bad value goes first", office.put(32), BAD_VALUE);
        due(20, "sixty", office.put(65), 60);
        due(20, "sixty-one", office.put(65), TOO_MANY);
        due(20, "still sixty", office.count(14), 60);

        ClimbPermits order = office(1, 0, 1);
        order.put('c');
        order.put(packed("0r0d"));
        order.put(packed("59"));
        due(20, "in the order of reading", order.load(), 1);
        due(20, "the day", order.application(0, 2), 59);
    }

    private static void wipe() {
        ClimbPermits office = new ClimbPermits();
        due(21, "an empty pad", office.wipe(), 0);
        write(office, "c0r0d0;;;;");
        due(21, "its length", office.wipe(), 10);
        due(21, "empty then", office.count(14), 0);
        due(21, "empty still", office.wipe(), 0);
        write(office, "c0r0d0");
        due(21, "what was there is gone", office.fault(), NONE);
    }

    private static void faultOf(String text, int fault) {
        ClimbPermits office = new ClimbPermits();
        write(office, text);
        due(22, "fault of \"" + text + "\"", office.fault(), fault);
        due(22, "asked again", office.fault(), fault);
        due(22, "the pad stays", office.count(14), text.length());
    }

    private static void fault() {
        String[] good = {"c0r0d0", "c11r5d59x4", "c9r0d9x1", "c10r1d10;c0r0d0", "c0r0d0x2;c0r0d0",
                "c0r0d0;c0r0d0;c0r0d0;c0r0d0;c0r0d0;c0r0d0;c0r0d0;c0r0d0"};
        for (String text : good) {
            faultOf(text, NONE);
        }
        String[] bad = {"", "c", "c0", "c0r", "c0r0", "c0r0d", "c0r0d0x", "c0r0d0;", "c0r0d0;c", "c1r1d5x1;c1"};
        for (String text : bad) {
            faultOf(text, text.length());
        }
        faultOf("r", 0);
        faultOf("C0r0d0", 0);
        faultOf(";c0r0d0", 0);
        faultOf("cr0d0", 1);
        faultOf("cc", 1);
        faultOf("c-1r0d0", 1);
        faultOf("c00r0d0", 2);
        faultOf("c01r0d0", 2);
        faultOf("c12r0d0", 2);
        faultOf("c20r0d0", 2);
        faultOf("c99", 2);
        faultOf("c111", 3);
        faultOf("c100", 3);
        faultOf("c0d0", 2);
        faultOf("c0r6d0", 3);
        faultOf("c0r9", 3);
        faultOf("c0r10", 4);
        faultOf("c0r00", 4);
        faultOf("c0r55", 4);
        faultOf("c0r0x1", 4);
        faultOf("c0r0d60", 6);
        faultOf("c0r0d99", 6);
        faultOf("c0r0d591", 7);
        faultOf("c0r0d05", 6);
        faultOf("c0r0d0x0", 7);
        faultOf("c0r0d0x5", 7);
        faultOf("c0r0d0x9", 7);
        faultOf("c0r0d0x10", 8);
        faultOf("c0r0d0x44", 8);
        faultOf("c0r0d0xx", 7);
        faultOf("c0r0d0x1x1", 8);
        faultOf("c0r0d0c0", 6);
        faultOf("c0r0d0;;", 7);
        faultOf("c0r0d0;r", 7);
        faultOf("c0r0d0,c0r0d0", 6);
        faultOf("c0r0d0x1;c0r0d0x5", 16);
        faultOf("c5:", 2);
        faultOf("c/", 1);
        faultOf("c0r0d0;c0r0d0;c0r0d0;c0r0d0;c0r0d0;c0r0d0;c0r0d0;c0r0d0;c0r0", 60);
    }

    private static void load() {
        ClimbPermits office = office(4, 0, 12);
        due(23, "an empty pad", office.load(), BAD_TEXT);
        write(office, "c0r0d5;c1r0d60");
        due(23, "a fault", office.load(), BAD_TEXT);
        due(23, "the pad stays", office.count(14), 14);
        due(23, "nothing was made", office.count(3), 0);
        office.wipe();
        write(office, "c0r0d5;c11r0d59x4;c10r0d10x2");
        due(23, "three", office.load(), 3);
        due(23, "the pad is empty", office.count(14), 0);
        int[][] due = {{0, 0, 5, 1}, {11, 0, 59, 4}, {10, 0, 10, 2}};
        for (int i = 0; i < due.length; i++) {
            for (int what = 0; what < 4; what++) {
                due(23, "application " + i + " what " + what, office.application(i, what), due[i][what]);
            }
            due(23, "state", office.application(i, 4), APPLIED);
        }
        write(office, "c1r0d5;c1r0d5;c2r0d5");
        due(23, "until one fails", office.load(), 1);
        due(23, "those behind it are not made", office.count(3), 4);
        due(23, "and the pad is empty", office.count(14), 0);
        write(office, "c0r5d0;c2r0d5");
        due(23, "the first one fails", office.load(), 0);
        due(23, "the pad is empty, too", office.count(14), 0);
        due(23, "a load of nothing", office.load(), BAD_TEXT);
        for (int day = 10; day < 46; day++) {
            office.apply(1, 0, day, 1);
        }
        due(23, "forty", office.count(3), 40);
        write(office, "c3r0d3");
        due(23, "too many", office.load(), 0);
    }

    private static void save() {
        ClimbPermits office = office(1, 0, 2);
        due(24, "slot -1", office.save(-1), BAD_VALUE);
        due(24, "slot 2", office.save(2), BAD_VALUE);
        due(24, "slot 0", office.save(0), 0);
        office.end();
        due(24, "slot 1", office.save(1), 1);
        office.end();
        due(24, "overwritten", office.save(0), 2);
        office.end();
        due(24, "what was saved last", office.restore(0), 2);
        due(24, "the other slot", office.restore(1), 1);
    }

    private static void restore() {
        ClimbPermits office = office(2, 1, 3);
        due(25, "slot -1", office.restore(-1), BAD_VALUE);
        due(25, "slot 2", office.restore(2), BAD_VALUE);
        due(25, "nothing saved", office.restore(0), NOT_POSSIBLE);
        office.set(STRIKES, 1);
        applyAndDraw(office, 0, 0, 1);
        applyAndDraw(office, 1, 4, 1);
        applyAndDraw(office, 2, 4, 1);
        office.apply(2, 0, 6, 1);
        office.show(0);
        office.close(9);
        String before = Snapshot.of(office);
        due(25, "saved", office.save(0), 0);
        due(25, "the other slot is empty", office.restore(1), NOT_POSSIBLE);
        office.cancel(1);
        office.lottery(0, 6);
        office.close(4);
        office.end();
        endDays(office, 5);
        office.set(FEE, 500);
        office.buffer(0, 2);
        office.route(1, 1);
        office.join();
        office.apply(3, 1, 20, 4);
        due(25, "today", office.restore(0), 0);
        checks.holds("promise 25: all as it was", before.equals(Snapshot.of(office)));
        due(25, "climber new again", office.join(), 3);
        due(25, "route new again", office.route(3, 2), 1);
        due(25, "application new again", office.apply(3, 1, 8, 2), 4);
        int[] fresh = {3, 1, 8, 2, APPLIED, 0, 0, 0, 8, 1};
        for (int what = 0; what < fresh.length; what++) {
            due(25, "what " + what + " of a new one", office.application(4, what), fresh[what]);
        }
        due(25, "the slot keeps it", office.restore(0), 0);
        checks.holds("promise 25: as it was, again", before.equals(Snapshot.of(office)));
        write(office, "c0r0");
        office.restore(0);
        due(25, "the pad is not restored", office.count(14), 4);
        office.save(1);
        office.wipe();
        office.restore(1);
        due(25, "nor is it saved", office.count(14), 0);
    }

    /** Each number of an office is restored, also over an office that is another in all of them. */
    private static void restoreOverAnother() {
        ClimbPermits office = new ClimbPermits();
        String empty = Snapshot.of(office);
        due(25, "the empty office", office.save(1), 0);
        office.route(5, 2);
        office.route(7, 1);
        for (int i = 0; i < 4; i++) {
            office.join();
        }
        office.apply(3, 1, 0, 2);
        office.apply(2, 0, 0, 4);
        office.apply(1, 1, 9, 3);
        office.lottery(1, 0);
        office.lottery(0, 0);
        office.lottery(1, 9);
        office.close(8);
        office.end();
        office.apply(0, 1, 1, 1);
        office.lottery(1, 1);
        office.show(3);
        office.cancel(2);
        String full = Snapshot.of(office);
        due(25, "the full one", office.save(0), 1);
        due(25, "the empty one again", office.restore(1), 0);
        checks.holds("promise 25: empty", empty.equals(Snapshot.of(office)));
        office.route(12, 0);
        for (int i = 0; i < 4; i++) {
            office.join();
        }
        office.close(0);
        office.set(STRIKES, 1);
        for (int day = 1; day < 10; day++) {
            applyAndDraw(office, day % 4, day, 1);
        }
        due(25, "nobody is there in the new one", office.application(3, 7), 0);
        endDays(office, 6);
        due(25, "the full one again", office.restore(0), 1);
        checks.holds("promise 25: full", full.equals(Snapshot.of(office)));
        due(25, "and the empty one", office.restore(1), 0);
        office.route(2, 2);
        due(25, "a new climber", office.join(), 0);
        due(25, "a new application", office.apply(0, 0, 3, 1), 0);
        int[] fresh = {0, 0, 3, 1, APPLIED, 0, 0, 0, 3, 1};
        for (int what = 0; what < fresh.length; what++) {
            due(25, "what " + what + " of it", office.application(0, what), fresh[what]);
        }
        due(25, "memory", office.climber(0, 0), 0);
        due(25, "strikes", office.climber(0, 1), 0);
        due(25, "bar", office.climber(0, 2), NONE);
    }
}
