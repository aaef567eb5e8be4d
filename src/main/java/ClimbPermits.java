/** An office for climbing permits. What each call answers is told in ../shared/DOC.md. */
public final class ClimbPermits {
    public static final int NO_SUCH = -1, BAD_VALUE = -2, BAD_TEXT = -3, TOO_MANY = -4, NOT_POSSIBLE = -5, NONE = -6;
    public static final int FEE = 0, MEMORY = 1, STRIKES = 2, BAR = 3, SHIFT = 4, SEED = 5;
    public static final int APPLIED = 0, WON = 1, LOST = 2, CANCELLED = 3, REFUNDED = 4, USED = 5, NOT_USED = 6;

    private static final int MOST_ROUTES = 6, MOST_CLIMBERS = 12, MOST_APPLICATIONS = 40, DAYS = 60, SLOTS = 2;
    private static final int MOST_PLACES = 12, MOST_PARTY = 4, MOST_TRIES = 200, MOST_SIGNS = 60, SIGNS_PER_PUT = 8;
    private static final int[] LOWEST = {1, 0, 1, 0, 0, 0};
    private static final int[] HIGHEST = {1000, 9, 5, 30, 10, 65535};
    private static final int[] FIRST = {100, 1, 2, 10, 3, 1};
    /** Stands for every route, or every climber, where one could be named. */
    private static final int ALL = -1;
    private static final int NOT_READ = -1;

    private final Office office = new Office();
    private final Office[] slots = {new Office(), new Office()};
    private final boolean[] filled = new boolean[SLOTS];
    private final Draw draw = new Draw();
    private final Pad pad = new Pad();

    public ClimbPermits() {
    }

    // ---- routes, climbers, settings

    public int route(int limit, int buffer) {
        if (limit < 1 || limit > MOST_PLACES || buffer < 0 || buffer > limit) {
            return BAD_VALUE;
        }
        if (office.routeCount >= MOST_ROUTES) {
            return TOO_MANY;
        }
        return office.addRoute(limit, buffer);
    }

    public int buffer(int route, int buffer) {
        if (!office.hasRoute(route)) {
            return NO_SUCH;
        }
        Route changed = office.routes[route];
        if (buffer < 0 || buffer > changed.limit) {
            return BAD_VALUE;
        }
        int previous = changed.buffer;
        changed.buffer = buffer;
        return previous;
    }

    public int join() {
        if (office.climberCount >= MOST_CLIMBERS) {
            return TOO_MANY;
        }
        return office.addClimber();
    }

    public int set(int setting, int value) {
        if (setting < 0 || setting >= FIRST.length || value < LOWEST[setting] || value > HIGHEST[setting]) {
            return BAD_VALUE;
        }
        int previous = office.settings[setting];
        office.settings[setting] = value;
        return previous;
    }

    // ---- applications

    public int apply(int climber, int route, int day, int party) {
        if (!office.hasClimber(climber) || !office.hasRouteAndDay(route, day)) {
            return NO_SUCH;
        }
        if (party < 1 || party > MOST_PARTY) {
            return BAD_VALUE;
        }
        if (!office.isOpen(day) || office.stillHas(climber, route, day)
                || office.climbers[climber].isBarredOn(day)) {
            return NOT_POSSIBLE;
        }
        if (office.applicationCount >= MOST_APPLICATIONS) {
            return TOO_MANY;
        }
        return office.addApplication(climber, route, day, party);
    }

    public int lottery(int route, int day) {
        if (!office.hasRouteAndDay(route, day)) {
            return NO_SUCH;
        }
        if (!office.isOpen(day) || office.countOf(route, day, APPLIED) == 0) {
            return NOT_POSSIBLE;
        }
        draw.enterAll(office, route, day);
        office.settings[SEED] = draw.hold(office.settings[SEED], office.placesForLottery(route, day));
        // Whoever is barred loses without a draw; those who won are given their permits behind this.
        office.loseApplied(route, day);
        return draw.settle(office);
    }

    public int cancel(int application) {
        if (!office.hasApplication(application)) {
            return NO_SUCH;
        }
        Application cancelled = office.applications[application];
        if (!cancelled.isAlive()) {
            return NOT_POSSIBLE;
        }
        boolean wasPermit = cancelled.state == WON;
        cancelled.state = CANCELLED;
        if (wasPermit) {
            cancelled.refunded = office.refundNow(cancelled);
            office.serveWaiting(cancelled.route, cancelled.day);
        }
        return cancelled.refunded;
    }

    public int close(int day) {
        if (!isDay(day)) {
            return NO_SUCH;
        }
        if (!office.isOpen(day)) {
            return NOT_POSSIBLE;
        }
        office.closed[day] = true;
        int moved = office.movePermits(day);
        office.loseApplied(ALL, day);
        return moved;
    }

    public int standby(int application) {
        if (!office.hasApplication(application)) {
            return NO_SUCH;
        }
        Application waiting = office.applications[application];
        if (waiting.state != LOST || waiting.day != office.today || !office.isOpen(waiting.day)
                || office.isBarred(waiting)
                || waiting.party > office.placesFree(waiting.route, waiting.day)) {
            return NOT_POSSIBLE;
        }
        office.givePermit(waiting);
        return waiting.paid;
    }

    public int show(int application) {
        if (!office.hasApplication(application)) {
            return NO_SUCH;
        }
        Application shown = office.applications[application];
        if (shown.state != WON || shown.day != office.today || shown.there) {
            return NOT_POSSIBLE;
        }
        shown.there = true;
        return 1;
    }

    public int end() {
        if (office.today >= DAYS - 1) {
            return NOT_POSSIBLE;
        }
        int notUsed = office.judgePermits();
        office.loseApplied(ALL, office.today);
        office.today++;
        return notUsed;
    }

    // ---- what there is

    public int onRoute(int route, int day, int what) {
        if (!office.hasRouteAndDay(route, day)) {
            return NO_SUCH;
        }
        switch (what) {
            case 0: return office.routes[route].limit;
            case 1: return office.routes[route].buffer;
            case 2: return office.placesTaken(route, day);
            case 3: return Math.max(0, office.placesForLottery(route, day));
            case 4: return office.countOf(route, day, APPLIED);
            case 5: return office.countOf(route, day, LOST);
            default: return BAD_VALUE;
        }
    }

    public int climber(int climber, int what) {
        if (!office.hasClimber(climber)) {
            return NO_SUCH;
        }
        switch (what) {
            case 0: return office.climbers[climber].memory;
            case 1: return office.climbers[climber].strikes;
            case 2: return office.climbers[climber].barredTo;
            case 3: return office.countIn(climber, WON);
            case 4: return office.paidBy(climber);
            case 5: return office.refundedTo(climber);
            case 6: return office.countBy(climber);
            default: return BAD_VALUE;
        }
    }

    public int application(int application, int what) {
        if (!office.hasApplication(application)) {
            return NO_SUCH;
        }
        Application asked = office.applications[application];
        switch (what) {
            case 0: return asked.climber;
            case 1: return asked.route;
            case 2: return asked.day;
            case 3: return asked.party;
            case 4: return asked.state;
            case 5: return asked.paid;
            case 6: return asked.refunded;
            case 7: return asked.there ? 1 : 0;
            case 8: return asked.firstDay;
            case 9: return office.ticketsOf(asked);
            default: return BAD_VALUE;
        }
    }

    public int count(int what) {
        if (what >= 4 && what <= 10) {
            return office.countIn(ALL, APPLIED + what - 4);
        }
        if (what >= 15 && what <= 20) {
            return office.settings[FEE + what - 15];
        }
        switch (what) {
            case 0: return office.today;
            case 1: return office.routeCount;
            case 2: return office.climberCount;
            case 3: return office.applicationCount;
            case 11: return office.paidBy(ALL);
            case 12: return office.refundedTo(ALL);
            case 13: return office.closedDays();
            case 14: return pad.length;
            default: return BAD_VALUE;
        }
    }

    public int nextWaiting(int route, int day) {
        if (!office.hasRouteAndDay(route, day)) {
            return NO_SUCH;
        }
        if (!office.isOpen(day)) {
            return NONE;
        }
        return office.firstWaiting(route, day, office.placesForLottery(route, day) + 1);
    }

    // ---- odds

    public int odds(int application) {
        if (!office.hasApplication(application)) {
            return NO_SUCH;
        }
        Application asked = office.applications[application];
        draw.enterAll(office, asked.route, asked.day);
        int entry = draw.entryOf(application);
        if (entry < 0 || draw.allTickets <= 0) {
            return NOT_POSSIBLE;
        }
        return (int) (1000000L * draw.tickets[entry] / draw.allTickets);
    }

    public int tries(int application, int times) {
        if (!office.hasApplication(application)) {
            return NO_SUCH;
        }
        if (times < 1 || times > MOST_TRIES) {
            return BAD_VALUE;
        }
        Application asked = office.applications[application];
        if (asked.state != APPLIED || !office.isOpen(asked.day)) {
            return NOT_POSSIBLE;
        }
        draw.enterAll(office, asked.route, asked.day);
        int entry = draw.entryOf(application);
        if (entry < 0) {
            return 0;
        }
        int places = office.placesForLottery(asked.route, asked.day);
        int seed = office.settings[SEED];
        int won = 0;
        for (int done = 0; done < times; done++) {
            seed = draw.hold(seed, places);
            if (draw.won[entry]) {
                won++;
            }
        }
        return won;
    }

    // ---- texts

    public int put(long characters) {
        int size = Pad.sizeOf(characters);
        if (size == 0) {
            return BAD_VALUE;
        }
        if (pad.length + size > MOST_SIGNS) {
            return TOO_MANY;
        }
        pad.append(characters, size);
        return pad.length;
    }

    public int wipe() {
        int previous = pad.length;
        pad.length = 0;
        return previous;
    }

    public int fault() {
        return pad.findFault();
    }

    public int load() {
        if (pad.findFault() != NONE) {
            return BAD_TEXT;
        }
        int made = 0;
        boolean more = true;
        pad.place = 0;
        for (int reads = 0; more && reads < pad.length; reads++) {
            pad.readApplication();
            more = apply(pad.climber, pad.route, pad.day, pad.party) >= 0;
            if (more) {
                made++;
                more = pad.readSign(';');
            }
        }
        pad.length = 0;
        return made;
    }

    // ---- saving

    public int save(int slot) {
        if (slot < 0 || slot >= SLOTS) {
            return BAD_VALUE;
        }
        slots[slot].copyFrom(office);
        filled[slot] = true;
        return office.today;
    }

    public int restore(int slot) {
        if (slot < 0 || slot >= SLOTS) {
            return BAD_VALUE;
        }
        if (!filled[slot]) {
            return NOT_POSSIBLE;
        }
        office.copyFrom(slots[slot]);
        return office.today;
    }

    private static boolean isDay(int day) {
        return day >= 0 && day < DAYS;
    }

    private static final class Route {
        int limit;
        int buffer;

        void copyFrom(Route other) {
            limit = other.limit;
            buffer = other.buffer;
        }
    }

    private static final class Climber {
        int memory;
        int strikes;
        /** NONE, which lies before all days, for one who was never barred. */
        int barredTo = NONE;

        boolean isBarredOn(int day) {
            return barredTo >= day;
        }

        void strike(int most, int barTo) {
            strikes++;
            if (strikes >= most) {
                strikes = 0;
                barredTo = Math.max(barredTo, barTo);
            }
        }

        void copyFrom(Climber other) {
            memory = other.memory;
            strikes = other.strikes;
            barredTo = other.barredTo;
        }
    }

    private static final class Application {
        int climber;
        int route;
        int day;
        int firstDay;
        int party;
        int state;
        int paid;
        int refunded;
        boolean there;

        /** Whether it is of a route, or of ALL routes, and of a day. */
        boolean isOf(int wantedRoute, int wantedDay) {
            return day == wantedDay && (wantedRoute == ALL || wantedRoute == route);
        }

        boolean isBy(int wantedClimber) {
            return wantedClimber == ALL || wantedClimber == climber;
        }

        boolean isAlive() {
            return state == APPLIED || state == WON || state == LOST;
        }

        boolean takesPlaces() {
            return state == WON || state == USED || state == NOT_USED;
        }

        void copyFrom(Application other) {
            climber = other.climber;
            route = other.route;
            day = other.day;
            firstDay = other.firstDay;
            party = other.party;
            state = other.state;
            paid = other.paid;
            refunded = other.refunded;
            there = other.there;
        }
    }

    /** All that a slot saves. Its rows are made once; those behind the counts are always as they were made. */
    private static final class Office {
        int today;
        int routeCount;
        int climberCount;
        int applicationCount;
        final Route[] routes = new Route[MOST_ROUTES];
        final Climber[] climbers = new Climber[MOST_CLIMBERS];
        final Application[] applications = new Application[MOST_APPLICATIONS];
        final boolean[] closed = new boolean[DAYS];
        final int[] settings = new int[FIRST.length];

        Office() {
            for (int i = 0; i < routes.length; i++) {
                routes[i] = new Route();
            }
            for (int i = 0; i < climbers.length; i++) {
                climbers[i] = new Climber();
            }
            for (int i = 0; i < applications.length; i++) {
                applications[i] = new Application();
            }
            for (int i = 0; i < settings.length; i++) {
                settings[i] = FIRST[i];
            }
        }

        /** Copies the rows that are not in use, too, so that those that a slot did not have are new again. */
        void copyFrom(Office other) {
            today = other.today;
            routeCount = other.routeCount;
            climberCount = other.climberCount;
            applicationCount = other.applicationCount;
            for (int i = 0; i < routes.length; i++) {
                routes[i].copyFrom(other.routes[i]);
            }
            for (int i = 0; i < climbers.length; i++) {
                climbers[i].copyFrom(other.climbers[i]);
            }
            for (int i = 0; i < applications.length; i++) {
                applications[i].copyFrom(other.applications[i]);
            }
            for (int i = 0; i < closed.length; i++) {
                closed[i] = other.closed[i];
            }
            for (int i = 0; i < settings.length; i++) {
                settings[i] = other.settings[i];
            }
        }

        boolean hasRoute(int route) {
            return route >= 0 && route < routeCount;
        }

        boolean hasRouteAndDay(int route, int day) {
            return hasRoute(route) && isDay(day);
        }

        boolean hasClimber(int climber) {
            return climber >= 0 && climber < climberCount;
        }

        boolean hasApplication(int application) {
            return application >= 0 && application < applicationCount;
        }

        /** Whether a day is neither before today nor closed. */
        boolean isOpen(int day) {
            return day >= today && isDay(day) && !closed[day];
        }

        int addRoute(int limit, int buffer) {
            Route added = routes[routeCount];
            added.limit = limit;
            added.buffer = buffer;
            routeCount++;
            return routeCount - 1;
        }

        int addClimber() {
            climberCount++;
            return climberCount - 1;
        }

        int addApplication(int climber, int route, int day, int party) {
            Application added = applications[applicationCount];
            added.climber = climber;
            added.route = route;
            added.day = day;
            added.firstDay = day;
            added.party = party;
            applicationCount++;
            return applicationCount - 1;
        }

        /** Whether a climber has an application that is not ended for a route and a day. */
        boolean stillHas(int climber, int route, int day) {
            for (int i = 0; i < applicationCount; i++) {
                Application one = applications[i];
                if (one.isBy(climber) && one.isOf(route, day) && one.isAlive()) {
                    return true;
                }
            }
            return false;
        }

        int countOf(int route, int day, int state) {
            int found = 0;
            for (int i = 0; i < applicationCount; i++) {
                if (applications[i].state == state && applications[i].isOf(route, day)) {
                    found++;
                }
            }
            return found;
        }

        int countIn(int climber, int state) {
            int found = 0;
            for (int i = 0; i < applicationCount; i++) {
                if (applications[i].state == state && applications[i].isBy(climber)) {
                    found++;
                }
            }
            return found;
        }

        int countBy(int climber) {
            int found = 0;
            for (int i = 0; i < applicationCount; i++) {
                if (applications[i].isBy(climber)) {
                    found++;
                }
            }
            return found;
        }

        int paidBy(int climber) {
            int sum = 0;
            for (int i = 0; i < applicationCount; i++) {
                if (applications[i].isBy(climber)) {
                    sum += applications[i].paid;
                }
            }
            return sum;
        }

        int refundedTo(int climber) {
            int sum = 0;
            for (int i = 0; i < applicationCount; i++) {
                if (applications[i].isBy(climber)) {
                    sum += applications[i].refunded;
                }
            }
            return sum;
        }

        int closedDays() {
            int found = 0;
            for (int day = 0; day < closed.length; day++) {
                if (closed[day]) {
                    found++;
                }
            }
            return found;
        }

        int placesTaken(int route, int day) {
            int sum = 0;
            for (int i = 0; i < applicationCount; i++) {
                if (applications[i].takesPlaces() && applications[i].isOf(route, day)) {
                    sum += applications[i].party;
                }
            }
            return sum;
        }

        /** The places left with the buffer. */
        int placesFree(int route, int day) {
            return routes[route].limit - placesTaken(route, day);
        }

        /** The places left without the buffer; below 0 if permits stand in it. */
        int placesForLottery(int route, int day) {
            return placesFree(route, day) - routes[route].buffer;
        }

        boolean isBarred(Application application) {
            return climbers[application.climber].isBarredOn(application.day);
        }

        int ticketsOf(Application application) {
            return 1 + settings[MEMORY] * climbers[application.climber].memory;
        }

        void givePermit(Application application) {
            application.state = WON;
            application.paid = settings[FEE] * application.party;
        }

        /** The applications of a route, or of ALL routes, and a day that are APPLIED become LOST. */
        void loseApplied(int route, int day) {
            for (int i = 0; i < applicationCount; i++) {
                if (applications[i].state == APPLIED && applications[i].isOf(route, day)) {
                    applications[i].state = LOST;
                }
            }
        }

        int refundNow(Application permit) {
            int ahead = permit.day - today;
            if (ahead >= 7) {
                return permit.paid;
            }
            return ahead >= 3 ? permit.paid / 2 : 0;
        }

        /** The application on the waiting list whose turn it is if so many places are left, or NONE. */
        int firstWaiting(int route, int day, int places) {
            int first = NONE;
            int most = -1;
            for (int i = 0; i < applicationCount; i++) {
                Application one = applications[i];
                if (one.state == LOST && one.isOf(route, day) && one.party <= places && !isBarred(one)
                        && climbers[one.climber].memory > most) {
                    first = i;
                    most = climbers[one.climber].memory;
                }
            }
            return first;
        }

        void serveWaiting(int route, int day) {
            if (!isOpen(day)) {
                return;
            }
            for (int served = 0; served < applicationCount; served++) {
                int next = firstWaiting(route, day, placesForLottery(route, day));
                if (next < 0) {
                    return;
                }
                givePermit(applications[next]);
                climbers[applications[next].climber].memory = 0;
            }
        }

        /** Moves the permits of a day that is closed, or refunds them; returns how many moved. */
        int movePermits(int day) {
            int moved = 0;
            for (int i = 0; i < applicationCount; i++) {
                Application one = applications[i];
                if (one.state == WON && one.day == day) {
                    int later = laterDayFor(one);
                    if (later < 0) {
                        one.state = REFUNDED;
                        one.refunded = one.paid;
                        climbers[one.climber].memory += 2;
                    } else {
                        one.day = later;
                        one.there = false;
                        moved++;
                    }
                }
            }
            return moved;
        }

        /** The first day to which a permit can move, or NONE. */
        int laterDayFor(Application permit) {
            int last = Math.min(permit.day + settings[SHIFT], DAYS - 1);
            for (int day = permit.day + 1; day <= last; day++) {
                if (isOpen(day) && permit.party <= placesFree(permit.route, day)) {
                    return day;
                }
            }
            return NONE;
        }

        /** The permits of today become USED or NOT_USED; returns how many are NOT_USED. */
        int judgePermits() {
            int notUsed = 0;
            for (int i = 0; i < applicationCount; i++) {
                Application one = applications[i];
                if (one.state == WON && one.day == today) {
                    if (one.there) {
                        one.state = USED;
                    } else {
                        one.state = NOT_USED;
                        climbers[one.climber].strike(settings[STRIKES], today + settings[BAR]);
                        notUsed++;
                    }
                }
            }
            return notUsed;
        }
    }

    /** A lottery on rows of its own, so that one can be tried and nothing changes in the office. */
    private static final class Draw {
        final int[] numbers = new int[MOST_APPLICATIONS];
        final int[] parties = new int[MOST_APPLICATIONS];
        final int[] tickets = new int[MOST_APPLICATIONS];
        final boolean[] drawn = new boolean[MOST_APPLICATIONS];
        final boolean[] won = new boolean[MOST_APPLICATIONS];
        int entries;
        int allTickets;

        /** Enters the applications that are in a lottery now, with the tickets that they have now. */
        void enterAll(Office office, int route, int day) {
            entries = 0;
            allTickets = 0;
            for (int i = 0; i < office.applicationCount; i++) {
                Application one = office.applications[i];
                if (one.state == APPLIED && one.isOf(route, day) && !office.isBarred(one)) {
                    numbers[entries] = i;
                    parties[entries] = one.party;
                    tickets[entries] = office.ticketsOf(one);
                    allTickets += tickets[entries];
                    entries++;
                }
            }
        }

        /** Where an application was entered, or NONE. */
        int entryOf(int application) {
            for (int entry = 0; entry < entries; entry++) {
                if (numbers[entry] == application) {
                    return entry;
                }
            }
            return NONE;
        }

        /** Draws all entries and notes which of them won; returns the seed behind the last draw. */
        int hold(int firstSeed, int firstPlaces) {
            int seed = firstSeed;
            int places = firstPlaces;
            int ticketsLeft = allTickets;
            for (int entry = 0; entry < entries; entry++) {
                drawn[entry] = false;
            }
            for (int draws = 0; draws < entries && ticketsLeft > 0; draws++) {
                seed = seedBehind(seed);
                int entry = entryAt(seed % ticketsLeft);
                drawn[entry] = true;
                ticketsLeft -= tickets[entry];
                won[entry] = parties[entry] <= places;
                if (won[entry]) {
                    places -= parties[entry];
                }
            }
            return seed;
        }

        static int seedBehind(int seed) {
            int next = (75 * seed + 74) % 65537;
            return next == 65536 ? 0 : next;
        }

        /** The entry not drawn yet at which the sum of the tickets becomes greater than a number. */
        int entryAt(int ticket) {
            int sum = 0;
            int last = 0;
            for (int entry = 0; entry < entries && sum <= ticket; entry++) {
                if (!drawn[entry]) {
                    sum += tickets[entry];
                    last = entry;
                }
            }
            return last;
        }

        /** Gives the permits that were won and changes the memories; returns how many were given. */
        int settle(Office office) {
            int given = 0;
            for (int entry = 0; entry < entries; entry++) {
                Application one = office.applications[numbers[entry]];
                if (won[entry]) {
                    office.givePermit(one);
                    office.climbers[one.climber].memory = 0;
                    given++;
                } else {
                    office.climbers[one.climber].memory++;
                }
            }
            return given;
        }
    }

    /** The text from which applications are read, and the application that was read last. */
    private static final class Pad {
        final char[] signs = new char[MOST_SIGNS];
        int length;
        int place;
        int climber;
        int route;
        int day;
        int party;

        /** How many characters a number holds; 0 if it does not hold characters alone. */
        static int sizeOf(long characters) {
            long rest = characters;
            for (int size = 0; size < SIGNS_PER_PUT; size++) {
                if (rest == 0) {
                    return size;
                }
                long code = rest & 255;
                if (code < 33 || code > 126) {
                    return 0;
                }
                rest >>>= 8;
            }
            return SIGNS_PER_PUT;
        }

        /** Appends characters, for which there has to be room. */
        void append(long characters, int size) {
            for (int behind = size - 1; behind >= 0; behind--) {
                signs[length] = (char) (characters >>> (8 * behind) & 255);
                length++;
            }
        }

        int findFault() {
            place = 0;
            for (int reads = 0; reads <= length; reads++) {
                if (!readApplication()) {
                    return place;
                }
                if (place == length) {
                    return NONE;
                }
                if (!readSign(';')) {
                    return place;
                }
            }
            return place;
        }

        /** Reads an application; if it has a fault, the place is that of the fault then. */
        boolean readApplication() {
            if (!readSign('c')) {
                return false;
            }
            climber = readNumber(0, MOST_CLIMBERS - 1);
            if (climber == NOT_READ || !readSign('r')) {
                return false;
            }
            route = readNumber(0, MOST_ROUTES - 1);
            if (route == NOT_READ || !readSign('d')) {
                return false;
            }
            day = readNumber(0, DAYS - 1);
            if (day == NOT_READ) {
                return false;
            }
            party = readSign('x') ? readNumber(1, MOST_PARTY) : 1;
            return party != NOT_READ;
        }

        boolean readSign(char sign) {
            if (place >= length || signs[place] != sign) {
                return false;
            }
            place++;
            return true;
        }

        /** Reads a number, whose lowest value is 0 or 1; NOT_READ with the place at its fault. */
        int readNumber(int lowest, int highest) {
            int value = digitHere();
            if (value == NOT_READ || value < lowest || value > highest) {
                return NOT_READ;
            }
            place++;
            // Behind a leading zero there can be no digit: what is read next finds it a fault.
            for (int at = place; value > 0 && at < length; at++) {
                int digit = digitHere();
                if (digit == NOT_READ) {
                    return value;
                }
                if (10 * value + digit > highest) {
                    return NOT_READ;
                }
                value = 10 * value + digit;
                place++;
            }
            return value;
        }

        int digitHere() {
            if (place >= length || signs[place] < '0' || signs[place] > '9') {
                return NOT_READ;
            }
            return signs[place] - '0';
        }
    }
}
