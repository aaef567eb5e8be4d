/** All that an office tells about itself, to see whether a call changed anything. */
final class Snapshot {
    private static final int DAYS = 60;

    private Snapshot() {
    }

    static String of(ClimbPermits office) {
        StringBuilder text = new StringBuilder();
        for (int what = 0; what <= 20; what++) {
            text.append("n").append(what).append('=').append(office.count(what)).append(' ');
        }
        for (int route = 0; route < office.count(1); route++) {
            for (int day = 0; day < DAYS; day++) {
                for (int what = 0; what <= 5; what++) {
                    text.append(office.onRoute(route, day, what)).append(',');
                }
                text.append(office.nextWaiting(route, day)).append(' ');
            }
        }
        for (int climber = 0; climber < office.count(2); climber++) {
            for (int what = 0; what <= 6; what++) {
                text.append(office.climber(climber, what)).append(',');
            }
        }
        for (int application = 0; application < office.count(3); application++) {
            for (int what = 0; what <= 9; what++) {
                text.append(office.application(application, what)).append(',');
            }
            text.append(office.odds(application)).append(' ');
        }
        return text.append("fault ").append(office.fault()).toString();
    }
}
