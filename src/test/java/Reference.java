import java.util.ArrayList;
import java.util.Comparator;
import java.util.HashMap;
import java.util.List;
import java.util.Map;
import java.util.Optional;
import java.util.TreeSet;
import java.util.regex.Matcher;
import java.util.regex.Pattern;
import java.util.stream.Collectors;

/**
 * The document told again, sentence by sentence and without regard to speed, to compare ClimbPermits with.
 * It takes other ways on purpose: it copies itself to try a lottery, and reads the pad by a pattern.
 */
final class Reference {
    private static final int NO_SUCH = -1, BAD_VALUE = -2, BAD_TEXT = -3, TOO_MANY = -4, NOT_POSSIBLE = -5, NONE = -6;
    private static final String ONE = "c(1[01]|[0-9])r([0-5])d([1-5][0-9]|[0-9])(?:x([1-4]))?";
    private static final Pattern APPLICATION = Pattern.compile(ONE);
    private static final Pattern LIST = Pattern.compile(ONE + "(?:;" + ONE + ")*");
    private static final int[][] RANGES = {{1, 1000}, {0, 9}, {1, 5}, {0, 30}, {0, 10}, {0, 65535}};

    enum State { APPLIED, WON, LOST, CANCELLED, REFUNDED, USED, NOT_USED }

    private record Route(int limit, int buffer) { }

    private record Climber(int memory, int strikes, int barredTo) { }

    private record Permit(int number, int climber, int route, int day, int madeFor, int party, State state,
            int paid, int refunded, boolean there) {
        Permit in(State next) {
            return new Permit(number, climber, route, day, madeFor, party, next, paid, refunded, there);
        }

        Permit paying(int sum) {
            return new Permit(number, climber, route, day, madeFor, party, State.WON, sum, refunded, there);
        }

        Permit refunding(State next, int sum) {
            return new Permit(number, climber, route, day, madeFor, party, next, paid, sum, there);
        }

        Permit on(int later) {
            return new Permit(number, climber, route, later, madeFor, party, state, paid, refunded, false);
        }

        Permit shown() {
            return new Permit(number, climber, route, day, madeFor, party, state, paid, refunded, true);
        }
    }

    private int today;
    private List<Route> routes = new ArrayList<>();
    private List<Climber> climbers = new ArrayList<>();
    private List<Permit> permits = new ArrayList<>();
    private TreeSet<Integer> closed = new TreeSet<>();
    private List<Integer> settings = new ArrayList<>(List.of(100, 1, 2, 10, 3, 1));
    private String pad = "";
    private final Map<Integer, Reference> slots = new HashMap<>();

    private void takeFrom(Reference other) {
        today = other.today;
        routes = new ArrayList<>(other.routes);
        climbers = new ArrayList<>(other.climbers);
        permits = new ArrayList<>(other.permits);
        closed = new TreeSet<>(other.closed);
        settings = new ArrayList<>(other.settings);
    }

    private Reference copy() {
        Reference copy = new Reference();
        copy.takeFrom(this);
        return copy;
    }

    private static boolean within(int number, int size) {
        return number >= 0 && number < size;
    }

    private List<Permit> of(int route, int day, State state) {
        return permits.stream().filter(p -> p.route == route && p.day == day && p.state == state)
                .collect(Collectors.toList());
    }

    private List<Permit> onDay(int day, State state) {
        return permits.stream().filter(p -> p.day == day && p.state == state).collect(Collectors.toList());
    }

    private int taken(int route, int day) {
        return of(route, day, State.WON).stream().mapToInt(Permit::party).sum()
                + of(route, day, State.USED).stream().mapToInt(Permit::party).sum()
                + of(route, day, State.NOT_USED).stream().mapToInt(Permit::party).sum();
    }

    private int forLottery(int route, int day) {
        return routes.get(route).limit - routes.get(route).buffer - taken(route, day);
    }

    private boolean barred(int climber, int day) {
        return climbers.get(climber).barredTo != NONE && climbers.get(climber).barredTo >= day;
    }

    private int tickets(Permit permit) {
        return 1 + settings.get(1) * climbers.get(permit.climber).memory;
    }

    private void put(Permit permit) {
        permits.set(permit.number, permit);
    }

    private void give(Permit permit) {
        put(permit.paying(settings.get(0) * permit.party));
    }

    private void remember(int climber, int memory) {
        Climber c = climbers.get(climber);
        climbers.set(climber, new Climber(memory, c.strikes, c.barredTo));
    }

    private void loseApplied(int day) {
        onDay(day, State.APPLIED).forEach(p -> put(p.in(State.LOST)));
    }

    int route(int limit, int buffer) {
        if (limit < 1 || limit > 12) return BAD_VALUE;
        if (buffer < 0 || buffer > limit) return BAD_VALUE;
        if (routes.size() == 6) return TOO_MANY;
        routes.add(new Route(limit, buffer));
        return routes.size() - 1;
    }

    int buffer(int route, int buffer) {
        if (!within(route, routes.size())) return NO_SUCH;
        Route old = routes.get(route);
        if (buffer < 0 || buffer > old.limit) return BAD_VALUE;
        routes.set(route, new Route(old.limit, buffer));
        return old.buffer;
    }

    int join() {
        if (climbers.size() == 12) return TOO_MANY;
        climbers.add(new Climber(0, 0, NONE));
        return climbers.size() - 1;
    }

    int set(int setting, int value) {
        if (!within(setting, 6)) return BAD_VALUE;
        if (value < RANGES[setting][0] || value > RANGES[setting][1]) return BAD_VALUE;
        return settings.set(setting, value);
    }

    int apply(int climber, int route, int day, int party) {
        if (!within(climber, climbers.size()) || !within(route, routes.size()) || !within(day, 60)) return NO_SUCH;
        if (party < 1 || party > 4) return BAD_VALUE;
        if (day < today || closed.contains(day)) return NOT_POSSIBLE;
        for (State state : List.of(State.APPLIED, State.WON, State.LOST)) {
            if (of(route, day, state).stream().anyMatch(p -> p.climber == climber)) return NOT_POSSIBLE;
        }
        if (barred(climber, day)) return NOT_POSSIBLE;
        if (permits.size() == 40) return TOO_MANY;
        permits.add(new Permit(permits.size(), climber, route, day, day, party, State.APPLIED, 0, 0, false));
        return permits.size() - 1;
    }

    int lottery(int route, int day) {
        if (!within(route, routes.size()) || !within(day, 60)) return NO_SUCH;
        if (day < today || closed.contains(day) || of(route, day, State.APPLIED).isEmpty()) return NOT_POSSIBLE;
        of(route, day, State.APPLIED).stream().filter(p -> barred(p.climber, day))
                .forEach(p -> put(p.in(State.LOST)));
        List<Permit> entered = of(route, day, State.APPLIED);
        Map<Integer, Integer> tickets = new HashMap<>();
        entered.forEach(p -> tickets.put(p.number, tickets(p)));
        List<Permit> left = new ArrayList<>(entered);
        while (!left.isEmpty()) {
            int seed = (75 * settings.get(5) + 74) % 65537;
            settings.set(5, seed == 65536 ? 0 : seed);
            List<Permit> box = new ArrayList<>();
            for (Permit p : left) {
                for (int i = 0; i < tickets.get(p.number); i++) box.add(p);
            }
            Permit drawn = box.get(settings.get(5) % box.size());
            left.remove(drawn);
            if (drawn.party <= forLottery(route, day)) give(drawn);
            else put(drawn.in(State.LOST));
        }
        int given = 0;
        for (Permit p : entered) {
            boolean won = permits.get(p.number).state == State.WON;
            remember(p.climber, won ? 0 : climbers.get(p.climber).memory + 1);
            if (won) given++;
        }
        return given;
    }

    private Optional<Permit> waiting(int route, int day, int places) {
        return of(route, day, State.LOST).stream()
                .filter(p -> p.party <= places && !barred(p.climber, day))
                .min(Comparator.comparingInt((Permit p) -> -climbers.get(p.climber).memory)
                        .thenComparingInt(Permit::number));
    }

    int cancel(int number) {
        if (!within(number, permits.size())) return NO_SUCH;
        Permit p = permits.get(number);
        if (p.state.ordinal() > State.LOST.ordinal()) return NOT_POSSIBLE;
        if (p.state != State.WON) {
            put(p.in(State.CANCELLED));
            return 0;
        }
        int back = p.day >= today + 7 ? p.paid : p.day >= today + 3 ? Math.floorDiv(p.paid, 2) : 0;
        put(p.refunding(State.CANCELLED, back));
        while (!closed.contains(p.day)) {
            Optional<Permit> next = waiting(p.route, p.day, forLottery(p.route, p.day));
            if (next.isEmpty()) break;
            give(next.get());
            remember(next.get().climber, 0);
        }
        return back;
    }

    int close(int day) {
        if (!within(day, 60)) return NO_SUCH;
        if (day < today || closed.contains(day)) return NOT_POSSIBLE;
        closed.add(day);
        int moved = 0;
        for (Permit p : onDay(day, State.WON)) {
            int to = day + 1;
            while (to <= 59 && to <= day + settings.get(4)
                    && (closed.contains(to) || taken(p.route, to) + p.party > routes.get(p.route).limit)) {
                to++;
            }
            if (to <= 59 && to <= day + settings.get(4)) {
                put(p.on(to));
                moved++;
            } else {
                put(p.refunding(State.REFUNDED, p.paid));
                remember(p.climber, climbers.get(p.climber).memory + 2);
            }
        }
        loseApplied(day);
        return moved;
    }

    int standby(int number) {
        if (!within(number, permits.size())) return NO_SUCH;
        Permit p = permits.get(number);
        if (p.state != State.LOST || p.day != today || closed.contains(today) || barred(p.climber, today)
                || taken(p.route, today) + p.party > routes.get(p.route).limit) {
            return NOT_POSSIBLE;
        }
        give(p);
        return permits.get(number).paid;
    }

    int show(int number) {
        if (!within(number, permits.size())) return NO_SUCH;
        Permit p = permits.get(number);
        if (p.state != State.WON || p.day != today || p.there) return NOT_POSSIBLE;
        put(p.shown());
        return 1;
    }

    int end() {
        if (today == 59) return NOT_POSSIBLE;
        int missing = 0;
        for (Permit p : onDay(today, State.WON)) {
            put(p.in(p.there ? State.USED : State.NOT_USED));
            if (p.there) continue;
            missing++;
            Climber c = climbers.get(p.climber);
            boolean bar = c.strikes + 1 >= settings.get(2);
            climbers.set(p.climber, bar
                    ? new Climber(c.memory, 0, Math.max(c.barredTo, today + settings.get(3)))
                    : new Climber(c.memory, c.strikes + 1, c.barredTo));
        }
        loseApplied(today);
        today++;
        return missing;
    }

    int onRoute(int route, int day, int what) {
        if (!within(route, routes.size()) || !within(day, 60)) return NO_SUCH;
        if (!within(what, 6)) return BAD_VALUE;
        return List.of(routes.get(route).limit, routes.get(route).buffer, taken(route, day),
                Math.max(0, forLottery(route, day)), of(route, day, State.APPLIED).size(),
                of(route, day, State.LOST).size()).get(what);
    }

    int climber(int climber, int what) {
        if (!within(climber, climbers.size())) return NO_SUCH;
        if (!within(what, 7)) return BAD_VALUE;
        Climber c = climbers.get(climber);
        List<Permit> own = permits.stream().filter(p -> p.climber == climber).collect(Collectors.toList());
        return List.of(c.memory, c.strikes, c.barredTo,
                (int) own.stream().filter(p -> p.state == State.WON).count(),
                own.stream().mapToInt(Permit::paid).sum(), own.stream().mapToInt(Permit::refunded).sum(),
                own.size()).get(what);
    }

    int application(int number, int what) {
        if (!within(number, permits.size())) return NO_SUCH;
        if (!within(what, 10)) return BAD_VALUE;
        Permit p = permits.get(number);
        return List.of(p.climber, p.route, p.day, p.party, p.state.ordinal(), p.paid, p.refunded, p.there ? 1 : 0,
                p.madeFor, tickets(p)).get(what);
    }

    int count(int what) {
        if (!within(what, 21)) return BAD_VALUE;
        List<Integer> answers = new ArrayList<>(List.of(today, routes.size(), climbers.size(), permits.size()));
        for (State state : State.values()) {
            answers.add((int) permits.stream().filter(p -> p.state == state).count());
        }
        answers.add(permits.stream().mapToInt(Permit::paid).sum());
        answers.add(permits.stream().mapToInt(Permit::refunded).sum());
        answers.add(closed.size());
        answers.add(pad.length());
        answers.addAll(settings);
        return answers.get(what);
    }

    int nextWaiting(int route, int day) {
        if (!within(route, routes.size()) || !within(day, 60)) return NO_SUCH;
        if (day < today || closed.contains(day)) return NONE;
        return waiting(route, day, forLottery(route, day) + 1).map(Permit::number).orElse(NONE);
    }

    int odds(int number) {
        if (!within(number, permits.size())) return NO_SUCH;
        Permit p = permits.get(number);
        if (p.state != State.APPLIED || barred(p.climber, p.day)) return NOT_POSSIBLE;
        int sum = of(p.route, p.day, State.APPLIED).stream().filter(q -> !barred(q.climber, q.day))
                .mapToInt(this::tickets).sum();
        return (int) Math.floorDiv(1000000L * tickets(p), (long) sum);
    }

    int tries(int number, int times) {
        if (!within(number, permits.size())) return NO_SUCH;
        if (times < 1 || times > 200) return BAD_VALUE;
        Permit p = permits.get(number);
        if (p.state != State.APPLIED || p.day < today || closed.contains(p.day)) return NOT_POSSIBLE;
        int won = 0;
        int seed = settings.get(5);
        for (int i = 0; i < times; i++) {
            Reference copy = copy();
            copy.settings.set(5, seed);
            copy.lottery(p.route, p.day);
            seed = copy.settings.get(5);
            if (copy.permits.get(number).state == State.WON) won++;
        }
        return won;
    }

    int put(long characters) {
        String text = "";
        int at = 0;
        while (at < 8 && (characters >>> 8 * at & 255) != 0) {
            text = (char) (characters >>> 8 * at & 255) + text;
            at++;
        }
        if (at < 8 && characters >>> 8 * at != 0) return BAD_VALUE;
        if (text.isEmpty() || text.chars().anyMatch(c -> c < 33 || c > 126)) return BAD_VALUE;
        if (pad.length() + text.length() > 60) return TOO_MANY;
        pad += text;
        return pad.length();
    }

    int wipe() {
        int length = pad.length();
        pad = "";
        return length;
    }

    int fault() {
        for (int end = 1; end <= pad.length(); end++) {
            Matcher matcher = LIST.matcher(pad.substring(0, end));
            if (!matcher.matches() && !matcher.hitEnd()) return end - 1;
        }
        return LIST.matcher(pad).matches() ? NONE : pad.length();
    }

    int load() {
        if (fault() != NONE) return BAD_TEXT;
        int made = 0;
        Matcher matcher = APPLICATION.matcher(pad);
        while (matcher.find()) {
            int party = matcher.group(4) == null ? 1 : Integer.parseInt(matcher.group(4));
            if (apply(Integer.parseInt(matcher.group(1)), Integer.parseInt(matcher.group(2)),
                    Integer.parseInt(matcher.group(3)), party) < 0) {
                break;
            }
            made++;
        }
        pad = "";
        return made;
    }

    int save(int slot) {
        if (!within(slot, 2)) return BAD_VALUE;
        slots.put(slot, copy());
        return today;
    }

    int restore(int slot) {
        if (!within(slot, 2)) return BAD_VALUE;
        if (!slots.containsKey(slot)) return NOT_POSSIBLE;
        takeFrom(slots.get(slot));
        return today;
    }
}
