import java.util.Random;

/** A call of the face with its arguments, chosen at random so that calls meet one another. */
final class Call {
    static final String[] NAMES = {"route", "buffer", "join", "set", "apply", "lottery", "cancel", "close", "standby",
        "show", "end", "onRoute", "climber", "application", "count", "nextWaiting", "odds", "tries", "put", "wipe",
        "fault", "load", "save", "restore"};
    private static final int END = 10;
    /** How often each is chosen. */
    private static final int[] OFTEN = {3, 5, 6, 8, 40, 25, 14, 4, 14, 14, 8, 15, 15, 15, 12, 16, 12, 5, 22, 6, 8, 12, 3, 3};
    private static final int[][] LIMITS = {{1, 1000}, {0, 9}, {1, 5}, {0, 30}, {0, 10}, {0, 65535}};
    private static final int[] WILD = {Integer.MIN_VALUE, Integer.MAX_VALUE, -1, -2, 60, 61, 40, 12, 6, 13, 1 << 16};
    private static final String SIGNS = "crdx;0123456789crd000111;;";

    /** What a choice goes by. */
    interface Seen {
        int count(int what);

        int application(int application, int what);
    }

    final int what;
    final int[] arguments = new int[4];
    long characters;

    private Call(int what) {
        this.what = what;
    }

    static Seen seen(ClimbPermits office) {
        return new Seen() {
            @Override
            public int count(int what) {
                return office.count(what);
            }

            @Override
            public int application(int application, int what) {
                return office.application(application, what);
            }
        };
    }

    static Seen seen(Reference office) {
        return new Seen() {
            @Override
            public int count(int what) {
                return office.count(what);
            }

            @Override
            public int application(int application, int what) {
                return office.application(application, what);
            }
        };
    }

    /** What the choice goes by: the office as it is, how near the days lie, and how fast they end (in percent). */
    static Call random(Random random, Seen office, int spread, int haste) {
        Call call = new Call(random.nextInt(100) < haste ? END : choose(random));
        call.fill(random, office, spread);
        if (random.nextInt(25) == 0) {
            call.arguments[random.nextInt(4)] = WILD[random.nextInt(WILD.length)];
        }
        return call;
    }

    private static int choose(Random random) {
        int sum = 0;
        for (int often : OFTEN) {
            sum += often;
        }
        int x = random.nextInt(sum);
        int what = 0;
        while (x >= OFTEN[what]) {
            x -= OFTEN[what];
            what++;
        }
        return what;
    }

    /** An application, mostly one in a state, and of today if that is asked for, if there is one. */
    private static int pick(Random random, Seen office, int state, boolean ofToday) {
        int applications = office.count(3);
        int from = random.nextInt(applications + 1);
        for (int i = 0; i < applications && random.nextInt(60) > 0; i++) {
            int application = (from + i) % applications;
            int day = office.application(application, 2);
            if (office.application(application, 4) == state
                    && (ofToday ? day == office.count(0) : day >= office.count(0))) {
                return application;
            }
        }
        return from;
    }

    private void useRouteAndDay(Seen office, int application, int otherRoute, int otherDay) {
        boolean there = application < office.count(3);
        use(there ? office.application(application, 1) : otherRoute, there ? office.application(application, 2) : otherDay);
    }

    private void fill(Random random, Seen office, int spread) {
        int today = office.count(0);
        int route = random.nextInt(3);
        int day = today + random.nextInt(spread);
        int application = random.nextInt(office.count(3) + 1);
        int climber = random.nextInt(6);
        switch (NAMES[what]) {
            case "route": use(1 + random.nextInt(random.nextBoolean() ? 4 : 12), random.nextInt(3)); break;
            case "buffer": use(route, random.nextInt(4)); break;
            case "set":
                int setting = random.nextInt(6);
                int[] limits = LIMITS[setting];
                use(setting, limits[0] - 1 + random.nextInt(limits[1] - limits[0] + 3));
                break;
            case "apply": use(climber, route, day, 1 + random.nextInt(random.nextBoolean() ? 2 : 5)); break;
            case "lottery":
                use(route, day);
                if (random.nextBoolean()) useRouteAndDay(office, pick(random, office, ClimbPermits.APPLIED, false), route, day);
                break;
            case "nextWaiting":
                use(route, day);
                if (random.nextInt(4) > 0) useRouteAndDay(office, pick(random, office, ClimbPermits.LOST, false), route, day);
                break;
            case "odds": use(application); break;
            case "cancel": use(random.nextBoolean() ? application : pick(random, office, ClimbPermits.WON, false)); break;
            case "standby": use(pick(random, office, ClimbPermits.LOST, true)); break;
            case "show": use(pick(random, office, ClimbPermits.WON, true)); break;
            case "tries": use(application, 1 + random.nextInt(random.nextBoolean() ? 12 : 205)); break;
            case "close": use(random.nextInt(3) == 0 ? today : day); break;
            case "onRoute": use(route, day - random.nextInt(2), random.nextInt(7)); break;
            case "climber": use(climber, random.nextInt(8)); break;
            case "application": use(application, random.nextInt(11)); break;
            case "count": use(random.nextInt(22)); break;
            case "put": characters = piece(random, office.count(14) == 0, climber, route, day); break;
            case "save": case "restore": use(random.nextInt(12) == 0 ? 2 : random.nextInt(2)); break;
            default: break;
        }
    }

    private void use(int... given) {
        System.arraycopy(given, 0, arguments, 0, given.length);
    }

    private static long piece(Random random, boolean first, int climber, int route, int day) {
        if (random.nextInt(40) == 0) {
            return random.nextLong() >>> random.nextInt(64);
        }
        String text = "c" + climber + "r" + route + "d" + day;
        int form = random.nextInt(16);
        if (form == 0) {
            text = "c1" + random.nextInt(3) + "r" + random.nextInt(7);
        } else if (form == 1) {
            text = "d" + random.nextInt(70);
        } else if (form < 5) {
            text = "x" + random.nextInt(6);
        } else if (form < 7) {
            text += "x" + (1 + random.nextInt(4));
        }
        if (!first && text.charAt(0) == 'c') {
            text = ";" + text;
        }
        if (random.nextInt(12) == 0) {
            int at = random.nextInt(text.length());
            text = text.substring(0, at) + SIGNS.charAt(random.nextInt(SIGNS.length())) + text.substring(at + 1);
        }
        long packed = 0;
        for (char sign : text.substring(0, Math.min(8, text.length())).toCharArray()) {
            packed = packed << 8 | sign;
        }
        return packed;
    }

    int on(ClimbPermits x) {
        int a = arguments[0], b = arguments[1], c = arguments[2], d = arguments[3];
        switch (what) {
            case 0: return x.route(a, b);
            case 1: return x.buffer(a, b);
            case 2: return x.join();
            case 3: return x.set(a, b);
            case 4: return x.apply(a, b, c, d);
            case 5: return x.lottery(a, b);
            case 6: return x.cancel(a);
            case 7: return x.close(a);
            case 8: return x.standby(a);
            case 9: return x.show(a);
            case 10: return x.end();
            case 11: return x.onRoute(a, b, c);
            case 12: return x.climber(a, b);
            case 13: return x.application(a, b);
            case 14: return x.count(a);
            case 15: return x.nextWaiting(a, b);
            case 16: return x.odds(a);
            case 17: return x.tries(a, b);
            case 18: return x.put(characters);
            case 19: return x.wipe();
            case 20: return x.fault();
            case 21: return x.load();
            case 22: return x.save(a);
            default: return x.restore(a);
        }
    }

    int on(Reference x) {
        int a = arguments[0], b = arguments[1], c = arguments[2], d = arguments[3];
        switch (what) {
            case 0: return x.route(a, b);
            case 1: return x.buffer(a, b);
            case 2: return x.join();
            case 3: return x.set(a, b);
            case 4: return x.apply(a, b, c, d);
            case 5: return x.lottery(a, b);
            case 6: return x.cancel(a);
            case 7: return x.close(a);
            case 8: return x.standby(a);
            case 9: return x.show(a);
            case 10: return x.end();
            case 11: return x.onRoute(a, b, c);
            case 12: return x.climber(a, b);
            case 13: return x.application(a, b);
            case 14: return x.count(a);
            case 15: return x.nextWaiting(a, b);
            case 16: return x.odds(a);
            case 17: return x.tries(a, b);
            case 18: return x.put(characters);
            case 19: return x.wipe();
            case 20: return x.fault();
            case 21: return x.load();
            case 22: return x.save(a);
            default: return x.restore(a);
        }
    }

    @Override
    public String toString() {
        return NAMES[what] + "(" + (NAMES[what].equals("put") ? characters + "L" : arguments[0] + ", " + arguments[1]
                + ", " + arguments[2] + ", " + arguments[3]) + ")";
    }
}
