import java.io.IOException;
import java.io.UncheckedIOException;
import java.nio.file.Files;
import java.nio.file.Path;
import java.util.ArrayList;
import java.util.List;

/** Tests that bear the sentences of ../shared/DOC.md to which they hold, and what they are made of. */
final class Edges {
    static final int NO_SUCH = -1, BAD_VALUE = -2, BAD_TEXT = -3, TOO_MANY = -4, NOT_POSSIBLE = -5, NONE = -6;
    static final int APPLIED = 0, WON = 1, LOST = 2, CANCELLED = 3, REFUNDED = 4, USED = 5, NOT_USED = 6;
    static final int FEE = 0, MEMORY = 1, STRIKES = 2, BAR = 3, SHIFT = 4, SEED = 5;
    static final int LOW = Integer.MIN_VALUE, HIGH = Integer.MAX_VALUE;
    private static final Path DOCUMENT = Path.of("../shared/DOC.md");

    /** A run of calls on a new object. */
    interface Story {
        void tell(ClimbPermits x);
    }

    /** One call and its answer. */
    interface Asked {
        int of(ClimbPermits x);
    }

    private interface Question {
        void ask(ClimbPermits x, StringBuilder answers);
    }

    private final Checks checks = new Checks();
    private final String document = inOneLine(read());
    private final List<Question> questions = questions();
    private String sentence = "";
    private int sentences;
    private int checksOfSentence;

    private static String read() {
        try {
            return Files.readString(DOCUMENT);
        } catch (IOException e) {
            throw new UncheckedIOException(e);
        }
    }

    private static String inOneLine(String text) {
        return text.replaceAll("\\s+", " ");
    }

    /** A test of a sentence, which has to stand in a section of the document word by word. */
    void test(String section, String words, Runnable test) {
        sentence = section + " \"" + words + "\"";
        sentences++;
        checksOfSentence = 0;
        due("the document says so", sectionOf(section).contains(words) ? 1 : 0, 1);
        try {
            test.run();
        } catch (RuntimeException e) {
            due(e.toString(), 1, 0);
        }
        checks.holds(sentence + " is tested", checksOfSentence > 1);
    }

    private String sectionOf(String section) {
        int start = document.indexOf("## " + section);
        int end = document.indexOf(" ## ", Math.max(start, 0) + 1);
        return start < 0 ? "" : document.substring(start, end < 0 ? document.length() : end);
    }

    void close() {
        System.out.print(sentences + " sentences, ");
        checks.close();
    }

    void due(String what, long got, long want) {
        checksOfSentence++;
        checks.due(sentence + ": " + what, got, want);
    }

    /** A call behind a story that is refused, and that changes nothing of what the object answers later. */
    void refused(String what, int error, Story story, Asked call) {
        due(what, call.of(told(story)), error);
        for (int i = 0; i < questions.size(); i++) {
            ClimbPermits later = told(story);
            call.of(later);
            boolean same = answers(questions.get(i), told(story)).equals(answers(questions.get(i), later));
            due(what + " changes nothing, asked by question " + i, same ? 1 : 0, 1);
        }
    }

    static ClimbPermits told(Story story) {
        ClimbPermits x = new ClimbPermits();
        story.tell(x);
        return x;
    }

    private static String answers(Question question, ClimbPermits x) {
        StringBuilder answers = new StringBuilder();
        question.ask(x, answers);
        return answers.toString();
    }

    /** All that an object tells, in parts of at most 250 calls, so that none is used for more than 512. */
    private static List<Question> questions() {
        List<Question> all = new ArrayList<>();
        all.add(Edges::askNumbers);
        all.add(Edges::askSlots);
        all.add(Edges::askPad);
        for (int i = 0; i < 2; i++) {
            int half = i;
            all.add((x, answers) -> askApplications(x, answers, 20 * half, 20 * half + 20));
        }
        for (int i = 0; i < 12; i++) {
            int part = i;
            all.add((x, answers) -> askRoute(x, answers, part / 2, 30 * (part % 2)));
        }
        return all;
    }

    private static void askNumbers(ClimbPermits x, StringBuilder answers) {
        for (int what = 0; what <= 20; what++) {
            answers.append(x.count(what)).append(' ');
        }
        answers.append(x.fault()).append('\n');
        int climbers = x.count(2);
        for (int climber = 0; climber < climbers; climber++) {
            for (int what = 0; what <= 6; what++) {
                answers.append(x.climber(climber, what)).append(' ');
            }
        }
    }

    private static void askSlots(ClimbPermits x, StringBuilder answers) {
        for (int slot = 0; slot < 2; slot++) {
            answers.append(x.restore(slot)).append(": ");
            askNumbers(x, answers);
        }
    }

    /** What stands in the pad shows only if it is loaded, for which there have to be routes and climbers. */
    private static void askPad(ClimbPermits x, StringBuilder answers) {
        for (int i = x.count(1); i < 6; i++) {
            x.route(12, 0);
        }
        for (int i = x.count(2); i < 12; i++) {
            x.join();
        }
        int first = x.count(3);
        answers.append(x.load()).append(": ");
        askApplications(x, answers, first, 40);
    }

    private static void askApplications(ClimbPermits x, StringBuilder answers, int from, int to) {
        int applications = Math.min(to, x.count(3));
        for (int application = from; application < applications; application++) {
            for (int what = 0; what <= 9; what++) {
                answers.append(x.application(application, what)).append(' ');
            }
            answers.append(x.odds(application)).append(' ').append(x.tries(application, 3)).append('\n');
        }
    }

    private static void askRoute(ClimbPermits x, StringBuilder answers, int route, int firstDay) {
        for (int day = firstDay; day < firstDay + 30 && route < x.count(1); day++) {
            for (int what = 0; what <= 5; what++) {
                answers.append(x.onRoute(route, day, what)).append(' ');
            }
            answers.append(x.nextWaiting(route, day)).append('\n');
        }
    }

    // ---- what stories are made of

    /** An office with one route and some climbers. */
    static ClimbPermits office(int limit, int buffer, int climbers) {
        ClimbPermits x = new ClimbPermits();
        open(x, limit, buffer, climbers);
        return x;
    }

    static void open(ClimbPermits x, int limit, int buffer, int climbers) {
        x.route(limit, buffer);
        for (int i = 0; i < climbers; i++) {
            x.join();
        }
    }

    /** An application that gets a permit from a lottery; its number. */
    static int won(ClimbPermits x, int climber, int route, int day, int party) {
        return drawn(x, climber, route, day, party, WON);
    }

    /** An application that loses a lottery, by which the memory of its climber increases; its number. */
    static int lost(ClimbPermits x, int climber, int route, int day, int party) {
        return drawn(x, climber, route, day, party, LOST);
    }

    private static int drawn(ClimbPermits x, int climber, int route, int day, int party, int state) {
        int made = x.apply(climber, route, day, party);
        x.lottery(route, day);
        if (made < 0 || x.application(made, 4) != state) {
            throw new IllegalStateException("the story does not come about");
        }
        return made;
    }

    /** A climber loses lotteries of days that follow one another, on a route with less than four places. */
    static void lose(ClimbPermits x, int climber, int route, int firstDay, int times) {
        for (int i = 0; i < times; i++) {
            lost(x, climber, route, firstDay + i, 4);
        }
    }

    /** A climber is barred up to a day, by a permit of today that is not used; today ends. */
    static void bar(ClimbPermits x, int climber, int route, int upTo) {
        x.set(STRIKES, 1);
        x.set(BAR, upTo - x.count(0));
        won(x, climber, route, x.count(0), 1);
        x.end();
        if (x.climber(climber, 2) != upTo) {
            throw new IllegalStateException("the climber is not barred");
        }
    }

    static void endDays(ClimbPermits x, int days) {
        for (int i = 0; i < days; i++) {
            x.end();
        }
    }

    /** Appends a text of any length to the pad; the last answer of put. */
    static int write(ClimbPermits x, String text) {
        int answer = 0;
        for (int from = 0; from < text.length(); from += 8) {
            answer = x.put(packed(text.substring(from, Math.min(from + 8, text.length()))));
        }
        return answer;
    }

    static long packed(String text) {
        long packed = 0;
        for (int i = 0; i < text.length(); i++) {
            packed = packed << 8 | text.charAt(i);
        }
        return packed;
    }

    static int seedBehind(int seed) {
        return (75 * seed + 74) % 65537;
    }

    /** The SEED from which the next draw is a number. */
    static int seedBefore(int draw) {
        int seed = 0;
        while (seedBehind(seed) != draw) {
            seed++;
        }
        return seed;
    }
}
