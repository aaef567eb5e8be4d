import java.util.ArrayList;
import java.util.List;

/** The edges in "Texts" of the document, and in the promises 20 to 25, which are about texts and slots. */
public final class EdgesOfTextsTest {
    private static final Edges edges = new Edges();
    /** All 60 characters of a pad. */
    private static final String FULL = "c0r0d10;c0r0d11;c0r0d12;c0r0d13;c0r0d14;c0r0d5;c0r0d6;c0r0d7";

    private EdgesOfTextsTest() {
    }

    public static void main(String[] args) {
        String terms = "Terms";
        edges.test(terms, "The pad is a text of at most 60 characters,", EdgesOfTextsTest::atMostSixty);
        edges.test(terms, "list = application { \";\" application }", EdgesOfTextsTest::listsOfApplications);
        edges.test(terms, "application = \"c\" number \"r\" number \"d\" number [ \"x\" number ]", EdgesOfTextsTest::oneApplication);
        edges.test(terms, "for a climber (0 to 11), a route (0 to 5), a day (0 to 59) and a party (1 to 4; 1 if it is left out).",
                EdgesOfTextsTest::rangesOfNumbers);
        edges.test(terms, "Numbers are without leading zeros.", EdgesOfTextsTest::leadingZeros);
        edges.test(terms, "The fault is the index of the first character that cannot stand at its place when the text is read "
                + "from left to right", EdgesOfTextsTest::firstThatCannotStand);
        edges.test(terms, "(also of a digit by which a number would be too great);", EdgesOfTextsTest::tooGreat);
        edges.test(terms, "if there is none and the text ends too early (also if it is empty), it is the length of the text.",
                EdgesOfTextsTest::endsTooEarly);
        put();
        wipeAndFault();
        load();
        save();
        restore();
        edges.close();
    }

    private static void put() {
        edges.test("Promise 20:", "Appends characters to the pad.", EdgesOfTextsTest::putAppends);
        edges.test("Promise 20:", "its lowest 8 bits are the last character, the next 8 bits the one before, and so on;",
                EdgesOfTextsTest::putOrder);
        edges.test("Promise 20:", "8 bits that are 0 mean that there are no more characters, and everything above them has to be "
                + "0, too.", EdgesOfTextsTest::putHoles);
        edges.test("Promise 20:", "`characters`: 1 to 8 characters", EdgesOfTextsTest::putSizes);
        edges.test("Promise 20:", "Returns the length of the pad then;", EdgesOfTextsTest::putLength);
        edges.test("Promise 20:", "BAD_VALUE if there is no character,", EdgesOfTextsTest::putNothing);
        edges.test("Promise 20:", "a code is not 33 to 126,", EdgesOfTextsTest::putCodes);
        edges.test("Promise 20:", "or a bit above 8 bits that are 0 is not 0;", EdgesOfTextsTest::putBitAbove);
        edges.test("Promise 20:", "TOO_MANY if the pad would be longer than 60.", EdgesOfTextsTest::putTooMany);
    }

    private static void wipeAndFault() {
        edges.test("Promise 21:", "Empties the pad, and returns the length that it had.", EdgesOfTextsTest::wiped);
        edges.test("Promise 22:", "Returns the fault of the pad, NONE if there is none.", EdgesOfTextsTest::faultOrNone);
    }

    private static void load() {
        edges.test("Promise 23:", "Makes the applications of the pad one after the other, as by apply(),",
                EdgesOfTextsTest::loadAsByApply);
        edges.test("Promise 23:", "until one of them fails (those behind it are not made),", EdgesOfTextsTest::loadUntilOneFails);
        edges.test("Promise 23:", "and empties the pad.", EdgesOfTextsTest::loadEmpties);
        edges.test("Promise 23:", "Returns the number of applications that were made;", EdgesOfTextsTest::loadNumber);
        edges.test("Promise 23:", "BAD_TEXT if the pad has a fault (then the pad stays).", EdgesOfTextsTest::loadBadText);
    }

    private static void save() {
        edges.test("Promise 24:", "Saves everything except the pad and the slots in a slot,", EdgesOfTextsTest::saveExcept);
        edges.test("Promise 24:", "and overwrites what was saved there.", EdgesOfTextsTest::saveOverwrites);
        edges.test("Promise 24:", "`slot`: 0 or 1", EdgesOfTextsTest::saveSlots);
        edges.test("Promise 24:", "Returns today;", EdgesOfTextsTest::saveToday);
        edges.test("Promise 24:", "BAD_VALUE if there is no such slot.", EdgesOfTextsTest::saveNoSlot);
    }

    private static void restore() {
        edges.test("Promise 25:", "Restores what was saved last in a slot,", EdgesOfTextsTest::restoreLast);
        edges.test("Promise 25:", "which keeps it.", EdgesOfTextsTest::restoreKeeps);
        edges.test("Promise 25:", "`slot`: 0 or 1", EdgesOfTextsTest::restoreSlots);
        edges.test("Promise 25:", "Returns today;", EdgesOfTextsTest::restoreToday);
        edges.test("Promise 25:", "BAD_VALUE if there is no such slot;", EdgesOfTextsTest::restoreNoSlot);
        edges.test("Promise 25:", "NOT_POSSIBLE if nothing was saved in it.", EdgesOfTextsTest::restoreNothing);
    }

    private static ClimbPermits withPad(String text) {
        ClimbPermits x = new ClimbPermits();
        Edges.write(x, text);
        return x;
    }

    private static void faultOf(String text, int fault) {
        edges.due("the fault of " + text, withPad(text).fault(), fault);
    }

    // ---- texts

    private static void atMostSixty() {
        edges.due("sixty", withPad(FULL).count(14), 60);
        faultOf(FULL, Edges.NONE);
        ClimbPermits x = Edges.office(1, 0, 1);
        Edges.write(x, FULL);
        edges.due("one more", x.put('1'), Edges.TOO_MANY);
        edges.due("all are read", x.load(), 8);
        edges.due("the last one", x.application(7, 2), 7);
        for (int length = 0; length < 60; length++) {
            ClimbPermits less = withPad(FULL.substring(0, length));
            edges.due("one more behind " + length, less.put('1'), length + 1);
        }
    }

    private static void listsOfApplications() {
        faultOf("", 0);
        faultOf("c0r0d0", Edges.NONE);
        faultOf("c0r0d0;", 7);
        faultOf(";c0r0d0", 0);
        faultOf("c0r0d0;;c0r0d0", 7);
        faultOf("c0r0d0;c0r0d0;", 14);
        faultOf("c0r0d0,c0r0d0", 6);
        faultOf("c0r0d0c0r0d0", 6);
        StringBuilder list = new StringBuilder("c0r0d0");
        for (int more = 1; more <= 8; more++) {
            faultOf(list.toString(), Edges.NONE);
            list.append(";c0r0d").append(more);
        }
    }

    private static void oneApplication() {
        faultOf("c1r1d1", Edges.NONE);
        faultOf("c1r1d1x1", Edges.NONE);
        String[] without = {"1r1d1x1", "cr1d1x1", "c11d1x1", "c1rd1x1", "c1r11x1", "c1r1dx1", "c1r1d11", "c1r1d1x"};
        int[] faults = {0, 1, 3, 3, 4, 5, Edges.NONE, 7};
        for (int i = 0; i < without.length; i++) {
            faultOf(without[i], faults[i]);
        }
        faultOf("r1c1d1", 0);
        faultOf("c1d1r1", 2);
        faultOf("c1r1x1", 4);
        faultOf("c1r1d1x1x1", 8);
        faultOf("c1r1d1d1", 6);
        faultOf("C1r1d1", 0);
        faultOf("c1R1d1", 2);
        faultOf("c1r1D1", 4);
        faultOf("c1r1d1X1", 6);
        faultOf("c+1r1d1", 1);
        faultOf("c1r-1d1", 3);
    }

    private static void rangesOfNumbers() {
        for (int climber = 0; climber <= 99; climber++) {
            faultOf("c" + climber + "r0d0", climber <= 11 ? Edges.NONE : 2);
        }
        for (int route = 0; route <= 99; route++) {
            faultOf("c0r" + route + "d0", route <= 5 ? Edges.NONE : route < 10 || route > 59 ? 3 : 4);
        }
        for (int day = 0; day <= 99; day++) {
            faultOf("c0r0d" + day, day <= 59 ? Edges.NONE : 6);
        }
        for (int party = 0; party <= 99; party++) {
            boolean good = party >= 1 && party <= 4;
            boolean first = party == 0 || party > 4 && party < 10 || party > 49;
            faultOf("c0r0d0x" + party, good ? Edges.NONE : first ? 7 : 8);
        }
        ClimbPermits x = Edges.office(1, 0, 12);
        for (int route = 1; route < 6; route++) {
            x.route(1, 0);
        }
        String[] texts = {"c0r0d0", "c11r5d59x4", "c9r5d10x1", "c10r4d9x3", "c1r1d49x2", "c11r0d50"};
        int[][] due = {{0, 0, 0, 1}, {11, 5, 59, 4}, {9, 5, 10, 1}, {10, 4, 9, 3}, {1, 1, 49, 2}, {11, 0, 50, 1}};
        for (int i = 0; i < texts.length; i++) {
            Edges.write(x, texts[i]);
            edges.due("load " + texts[i], x.load(), 1);
            for (int what = 0; what < 4; what++) {
                edges.due(texts[i] + ", number " + what, x.application(i, what), due[i][what]);
            }
        }
        Edges.write(x, "c5r0d3x4;c6r0d3");
        edges.due("load two", x.load(), 2);
        edges.due("the party of the one before", x.application(6, 3), 4);
        edges.due("1 if it is left out, also behind one", x.application(7, 3), 1);
    }

    private static void leadingZeros() {
        faultOf("c0r0d0", Edges.NONE);
        for (char digit = '0'; digit <= '9'; digit++) {
            faultOf("c0" + digit + "r0d0", 2);
            faultOf("c0r0" + digit + "d0", 4);
            faultOf("c0r0d0" + digit, 6);
            faultOf("c0r0d0x0" + digit, 7);
        }
        faultOf("c10r0d10", Edges.NONE);
        faultOf("c1r1d00", 6);
        faultOf("c1r1d1;c01r1d1", 9);
    }

    /** Any other character at any place, and what the document told again by a pattern says of it. */
    private static void firstThatCannotStand() {
        String[] texts = {"c1r2d3;c11r5d59x4", "c10r0d20x1;c0r0d0"};
        for (String text : texts) {
            for (int at = 0; at < text.length(); at++) {
                for (char other = 33; other <= 126; other++) {
                    String changed = text.substring(0, at) + other + text.substring(at + 1);
                    edges.due("the fault of " + changed, withPad(changed).fault(), faultByPattern(changed));
                }
            }
        }
        faultOf("c1r2d3!c", 6);
        faultOf("~", 0);
        faultOf("!", 0);
        faultOf("c1r2d3;c1r2d3;c1r2d6x5;r", 21);
        faultOf("c/r0d0", 1);
        faultOf("c:r0d0", 1);
        faultOf("c1/r0d0", 2);
        faultOf("c1:r0d0", 2);
    }

    private static int faultByPattern(String text) {
        Reference reference = new Reference();
        for (int from = 0; from < text.length(); from += 8) {
            reference.put(Edges.packed(text.substring(from, Math.min(from + 8, text.length()))));
        }
        return reference.fault();
    }

    private static void tooGreat() {
        String[] texts = {"c12", "c19r0", "c20r0", "c110", "c119r0", "c6r6", "c6r7d0", "c6r50", "c0r10d0", "c0r0d60", "c0r0d69x1",
            "c0r0d100", "c0r0d590", "c0r0d599;", "c0r0d0x5", "c0r0d0x9;", "c0r0d0x10", "c0r0d0x40", "c99999999999", "c11111111111"};
        int[] faults = {2, 2, 2, 3, 3, 3, 3, 4, 4, 6, 6, 7, 7, 7, 7, 7, 8, 8, 2, 3};
        for (int i = 0; i < texts.length; i++) {
            faultOf(texts[i], faults[i]);
        }
    }

    private static void endsTooEarly() {
        edges.due("an empty pad", new ClimbPermits().fault(), 0);
        List<Integer> complete = new ArrayList<>(List.of(6, 7, 9, 16, 17, 19, 26, 27, 29));
        String text = "c1r1d10x4;c1r1d10x4;c1r1d10x4;c1";
        for (int length = 0; length <= text.length(); length++) {
            faultOf(text.substring(0, length), complete.contains(length) ? Edges.NONE : length);
        }
        for (int length = 0; length <= 60; length++) {
            String part = FULL.substring(0, length);
            boolean ends = part.matches(".*d\\d+");
            faultOf(part, ends ? Edges.NONE : length);
        }
    }

    // ---- put

    private static void putAppends() {
        ClimbPermits x = Edges.office(1, 0, 1);
        for (char sign : "c0r0d59x4".toCharArray()) {
            x.put(sign);
        }
        edges.due("one by one", x.load(), 1);
        edges.due("the day", x.application(0, 2), 59);
        edges.due("the party", x.application(0, 3), 4);
        x.put(Edges.packed("c0r0d1"));
        x.put(Edges.packed("2;c0r0d2"));
        x.put(Edges.packed("3"));
        edges.due("by pieces", x.load(), 2);
        edges.due("the day of the first one", x.application(1, 2), 12);
        edges.due("the day of the second one", x.application(2, 2), 23);
        x.put(Edges.packed("c0r0"));
        x.wipe();
        x.put(Edges.packed("c0r0d4"));
        edges.due("behind a wipe from the beginning", x.load(), 1);
    }

    private static void putOrder() {
        ClimbPermits x = Edges.office(1, 0, 12);
        x.put(0x6331317230643539L);
        edges.due("c11r0d59", x.load(), 1);
        edges.due("the climber", x.application(0, 0), 11);
        edges.due("the day", x.application(0, 2), 59);
        ClimbPermits turned = new ClimbPermits();
        turned.put(0x3064307230633131L);
        edges.due("the other way round", turned.fault(), 0);
        for (int size = 1; size <= 8; size++) {
            ClimbPermits piece = new ClimbPermits();
            edges.due("a piece of " + size, piece.put(Edges.packed("c1r1d10x".substring(0, size))), size);
            edges.due("in the order of reading", piece.fault(), size == 6 || size == 7 ? Edges.NONE : size);
        }
    }

    private static void putHoles() {
        edges.due("one, and 56 bits that are 0", new ClimbPermits().put(0x41L), 1);
        edges.due("seven, and 8 bits that are 0", new ClimbPermits().put(0x41414141414141L), 7);
        for (int at = 0; at < 7; at++) {
            long whole = 0x4141414141414141L;
            edges.due("a hole at " + at, new ClimbPermits().put(whole & ~(255L << 8 * at)), Edges.BAD_VALUE);
        }
        edges.due("a hole at the top is none", new ClimbPermits().put(0x4141414141414141L & ~(255L << 56)), 7);
        edges.due("a hole of 16 bits", new ClimbPermits().put(0x41000041L), Edges.BAD_VALUE);
        edges.due("a hole at the bottom", new ClimbPermits().put(0x4100L), Edges.BAD_VALUE);
    }

    private static void putSizes() {
        for (int size = 1; size <= 8; size++) {
            String text = "!~!~!~!~".substring(0, size);
            edges.due(size + " characters", new ClimbPermits().put(Edges.packed(text)), size);
        }
        edges.due("none", new ClimbPermits().put(0), Edges.BAD_VALUE);
    }

    private static void putLength() {
        ClimbPermits x = new ClimbPermits();
        int length = 0;
        for (int size = 1; size <= 8; size++) {
            length += size;
            edges.due("and " + size, x.put(Edges.packed("abcdefgh".substring(0, size))), length);
            edges.due("told by count, too", x.count(14), length);
        }
    }

    private static void putNothing() {
        edges.refused("0", Edges.BAD_VALUE, x -> Edges.write(x, "c0r0d0"), x -> x.put(0));
        edges.refused("0 on an empty pad", Edges.BAD_VALUE, x -> x.join(), x -> x.put(0));
        edges.refused("0 on a full pad", Edges.BAD_VALUE, x -> Edges.write(x, FULL), x -> x.put(0));
    }

    private static void putCodes() {
        for (int at = 0; at < 8; at++) {
            for (int code = 1; code <= 255; code++) {
                long whole = 0x4141414141414141L & ~(255L << 8 * at) | (long) code << 8 * at;
                boolean good = code >= 33 && code <= 126;
                edges.due("the code " + code + " at " + at, new ClimbPermits().put(whole), good ? 8 : Edges.BAD_VALUE);
            }
        }
        for (int code = 1; code <= 255; code++) {
            boolean good = code >= 33 && code <= 126;
            edges.due("the code " + code + " alone", new ClimbPermits().put(code), good ? 1 : Edges.BAD_VALUE);
        }
        edges.refused("the code 32", Edges.BAD_VALUE, x -> Edges.write(x, "c0r0d0"), x -> x.put(0x3120L));
        edges.refused("the code 127", Edges.BAD_VALUE, x -> Edges.write(x, "c0r0d0"), x -> x.put(0x7f31L));
    }

    private static void putBitAbove() {
        for (int size = 0; size <= 6; size++) {
            long text = Edges.packed("cccccc".substring(0, size));
            for (int bit = 8 * size + 8; bit < 64; bit++) {
                long characters = text | 1L << bit;
                edges.due(size + " characters and the bit " + bit, new ClimbPermits().put(characters), Edges.BAD_VALUE);
            }
            edges.due(size + " characters and all above", new ClimbPermits().put(text | -1L << 8 * size + 8), Edges.BAD_VALUE);
        }
        edges.refused("a bit above", Edges.BAD_VALUE, x -> Edges.write(x, "c0r0d0"), x -> x.put(1L << 63 | '1'));
    }

    private static void putTooMany() {
        for (int size = 1; size <= 8; size++) {
            long piece = Edges.packed("12345678".substring(0, size));
            edges.due(size + " to sixty", withPad(FULL.substring(0, 60 - size)).put(piece), 60);
            edges.due(size + " to sixty-one", withPad(FULL.substring(0, 61 - size)).put(piece), Edges.TOO_MANY);
            edges.due(size + " behind sixty", withPad(FULL).put(piece), Edges.TOO_MANY);
        }
        edges.refused("one too many", Edges.TOO_MANY, x -> Edges.write(x, FULL), x -> x.put('1'));
        edges.refused("a part would fit", Edges.TOO_MANY, x -> Edges.write(x, FULL.substring(0, 54)), x -> x.put(Edges.packed(";c0r0d9")));
        ClimbPermits again = withPad(FULL);
        again.wipe();
        edges.due("behind a wipe", again.put('c'), 1);
    }

    // ---- wipe, fault

    private static void wiped() {
        int[] lengths = {0, 1, 59, 60};
        for (int length : lengths) {
            ClimbPermits x = withPad(FULL.substring(0, length));
            edges.due("a pad of " + length, x.wipe(), length);
            edges.due("its length", x.count(14), 0);
            edges.due("its fault", x.fault(), 0);
            edges.due("again", x.wipe(), 0);
        }
        ClimbPermits x = withPad(FULL);
        for (int length = 1; length <= 60; length++) {
            x.wipe();
            Edges.write(x, FULL.substring(0, length));
            edges.due("nothing of before stands behind " + length, x.fault(), withPad(FULL.substring(0, length)).fault());
        }
    }

    private static void faultOrNone() {
        edges.due("an empty pad", new ClimbPermits().fault(), 0);
        faultOf("c0r0d0", Edges.NONE);
        faultOf(FULL, Edges.NONE);
        faultOf(FULL.substring(0, 59) + ";", 59);
        faultOf(FULL.substring(0, 53) + ";c0r0d", 59);
        faultOf("c0r0d10;c0r0d11;c0r0d12;c0r0d13;c0r0d14;c0r0d15;c0r0d16;c0r0", 60);
        faultOf("c0r0d10;c0r0d11;c0r0d12;c0r0d13;c0r0d14;c0r0d15;c0r0d1;c0r0d", 60);
        faultOf("c0r0d10;c0r0d11;c0r0d12;c0r0d13;c0r0d14;c0r0d15;c0r0d16x1;c0", 60);
        faultOf("c0r0d10;c0r0d11;c0r0d12;c0r0d13;c0r0d14;c0r0d15x1;c0r0d1x1;c", 60);
        ClimbPermits x = withPad("c0r0d");
        edges.due("before", x.fault(), 5);
        edges.due("again", x.fault(), 5);
        x.put('0');
        edges.due("as the pad grows", x.fault(), Edges.NONE);
        x.put('0');
        edges.due("and grows", x.fault(), 6);
        x.put('0');
        edges.due("what comes behind it changes nothing", x.fault(), 6);
        edges.due("the pad stays", x.count(14), 8);
        edges.due("climbers and routes need not be there", withPad("c11r5d59").fault(), Edges.NONE);
    }

    // ---- load

    private static void loadAsByApply() {
        ClimbPermits x = Edges.office(2, 0, 2);
        x.end();
        x.close(9);
        Edges.bar(x, 1, 0, 5);
        String[] fail = {"c2r0d7", "c0r1d7", "c0r0d1", "c0r0d9", "c1r0d5", "c1r0d1"};
        int applications = x.count(3);
        for (String text : fail) {
            Edges.write(x, text);
            edges.due("none by " + text, x.load(), 0);
            edges.due("none is there", x.count(3), applications);
        }
        Edges.write(x, "c0r0d7x4");
        edges.due("one", x.load(), 1);
        edges.due("its state", x.application(applications, 4), Edges.APPLIED);
        edges.due("the day for which it was made", x.application(applications, 8), 7);
        Edges.write(x, "c0r0d7");
        edges.due("the same one again", x.load(), 0);
        Edges.write(x, "c0r0d8;c0r0d8");
        edges.due("the same one twice", x.load(), 1);
    }

    private static void loadUntilOneFails() {
        String[] texts = {"c0r0d60;c0r0d1", "c5r0d1;c0r0d2", "c0r0d1;c5r0d1;c0r0d2", "c0r0d1;c0r0d2;c0r5d1"};
        int[] made = {Edges.BAD_TEXT, 0, 1, 2};
        for (int i = 0; i < texts.length; i++) {
            ClimbPermits x = Edges.office(2, 0, 1);
            Edges.write(x, texts[i]);
            edges.due(texts[i], x.load(), made[i]);
            edges.due("applications", x.count(3), Math.max(0, made[i]));
        }
        ClimbPermits full = Edges.office(2, 0, 12);
        for (int i = 0; i < 38; i++) {
            full.apply(i % 12, 0, 20 + i / 12, 1);
        }
        Edges.write(full, "c0r0d1;c0r0d2;c0r0d3;c0r0d4");
        edges.due("two up to forty", full.load(), 2);
        edges.due("forty", full.count(3), 40);
        edges.due("the last one", full.application(39, 2), 2);
        Edges.write(full, "c0r0d5");
        edges.due("none above forty", full.load(), 0);
    }

    private static void loadEmpties() {
        String[] texts = {"c0r0d1", "c0r0d2;c0r0d3", "c5r0d1", "c0r0d4;c5r0d1;c0r0d5"};
        ClimbPermits x = Edges.office(2, 0, 1);
        for (String text : texts) {
            Edges.write(x, text);
            edges.due("loaded: " + text, x.load() >= 0 ? 1 : 0, 1);
            edges.due("the length behind " + text, x.count(14), 0);
            edges.due("the fault behind " + text, x.fault(), 0);
            edges.due("there is nothing to load", x.load(), Edges.BAD_TEXT);
        }
        edges.due("from the beginning", x.put('c'), 1);
    }

    private static void loadNumber() {
        StringBuilder text = new StringBuilder();
        for (int made = 1; made <= 8; made++) {
            text.append(made > 1 ? ";" : "").append("c0r0d").append(made);
            ClimbPermits x = Edges.office(1, 0, 1);
            Edges.write(x, text.toString());
            edges.due("the number of " + text, x.load(), made);
            edges.due("the applications", x.count(3), made);
            edges.due("those that are APPLIED", x.count(4), made);
        }
    }

    private static void loadBadText() {
        edges.refused("an empty pad", Edges.BAD_TEXT, x -> Edges.open(x, 1, 0, 1), x -> x.load());
        String[] bad = {"c0r0d5;", "c0r0d5;c0r0d60", "c", "c0r0d5;c0r0d05", FULL.substring(0, 59)};
        int[] ends = {1, 0, 1, 0, 1};
        for (int i = 0; i < bad.length; i++) {
            String text = bad[i];
            Edges.Story story = x -> {
                Edges.open(x, 1, 0, 1);
                Edges.write(x, text);
            };
            edges.refused(text, Edges.BAD_TEXT, story, x -> x.load());
            ClimbPermits x = Edges.told(story);
            x.load();
            edges.due("the pad stays", x.count(14), text.length());
            edges.due("its fault stays", x.fault(), ends[i] == 1 ? text.length() : text.length() - 1);
        }
    }

    // ---- slots

    private static void saveExcept() {
        ClimbPermits x = Edges.office(4, 1, 1);
        Edges.write(x, "c0r0d3");
        x.save(0);
        x.wipe();
        x.restore(0);
        edges.due("the pad is not saved", x.count(14), 0);
        Edges.write(x, "c0r0d37");
        x.restore(0);
        edges.due("a pad stays", x.count(14), 7);
        edges.due("with what it holds", x.load(), 1);
        edges.due("that day", x.application(0, 2), 37);
        x.save(1);
        x.restore(0);
        edges.due("a slot is not in a slot", x.restore(1), 0);
        edges.due("it holds what was saved behind the first one", x.count(3), 1);
        everythingElse();
    }

    /** Two offices that are different in all that can be, and an empty one, come back over one another. */
    private static void everythingElse() {
        ClimbPermits empty = new ClimbPermits();
        empty.save(0);
        oneOffice(empty);
        empty.restore(0);
        edges.due("nothing", empty.count(0) + empty.count(1) + empty.count(2) + empty.count(3) + empty.count(13), 0);
        edges.due("no route", empty.onRoute(0, 0, 0), Edges.NO_SUCH);
        edges.due("the first settings", empty.count(15) * 1000 + empty.count(20), 100001);
        anotherOffice(empty);
        String another = numbers(Edges.told(EdgesOfTextsTest::anotherOffice));
        edges.due("all is new again", numbers(empty).equals(another) ? 1 : 0, 1);

        String one = numbers(Edges.told(EdgesOfTextsTest::oneOffice));
        edges.due("they are not the same", one.equals(another) ? 1 : 0, 0);
        ClimbPermits x = new ClimbPermits();
        x.save(0);
        oneOffice(x);
        x.save(1);
        x.restore(0);
        anotherOffice(x);
        x.save(0);
        edges.due("the first one", x.restore(1), 1);
        edges.due("all of it", numbers(x).equals(one) ? 1 : 0, 1);
        edges.due("the other one", x.restore(0), 2);
        edges.due("all of it, too", numbers(x).equals(another) ? 1 : 0, 1);
    }

    private static void oneOffice(ClimbPermits x) {
        Edges.open(x, 4, 1, 2);
        x.route(7, 3);
        for (int setting = 0; setting <= 5; setting++) {
            x.set(setting, 3);
        }
        Edges.won(x, 0, 0, 0, 1);
        Edges.won(x, 1, 0, 0, 2);
        x.show(1);
        Edges.lost(x, 0, 0, 20, 4);
        Edges.won(x, 1, 1, 1, 1);
        x.close(0);
        x.end();
        x.show(0);
        x.show(3);
        x.close(9);
    }

    private static void anotherOffice(ClimbPermits x) {
        Edges.open(x, 9, 2, 2);
        x.route(8, 0);
        Edges.won(x, 1, 1, 2, 3);
        Edges.won(x, 0, 1, 2, 1);
        Edges.won(x, 1, 1, 30, 2);
        x.cancel(2);
        x.set(Edges.STRIKES, 1);
        Edges.won(x, 0, 0, 1, 4);
        x.buffer(0, 9);
        Edges.lost(x, 1, 0, 6, 4);
        Edges.endDays(x, 2);
        x.show(1);
        x.close(10);
        x.close(11);
    }

    private static String numbers(ClimbPermits x) {
        StringBuilder all = new StringBuilder();
        for (int what = 0; what <= 20; what++) {
            all.append(x.count(what)).append(' ');
        }
        for (int i = 0; i < 2; i++) {
            for (int what = 0; what <= 6; what++) {
                all.append(x.climber(i, what)).append(' ').append(x.onRoute(i, 9, what)).append(' ');
            }
        }
        for (int i = 0; i < x.count(3); i++) {
            for (int what = 0; what <= 9; what++) {
                all.append(x.application(i, what)).append(' ');
            }
        }
        for (int day = x.count(0); day < 12; day++) {
            all.append(x.apply(0, 0, day, 1)).append(' ');
        }
        return all.toString();
    }

    private static void saveOverwrites() {
        for (int slot = 0; slot < 2; slot++) {
            ClimbPermits x = Edges.office(3, 0, 2);
            Edges.won(x, 0, 0, 5, 1);
            x.apply(1, 0, 6, 1);
            x.save(slot);
            x.cancel(0);
            x.join();
            edges.due("saved again", x.save(slot), 0);
            x.cancel(1);
            x.restore(slot);
            edges.due("as it was the second time", x.application(0, 4), Edges.CANCELLED);
            edges.due("one that was cancelled later", x.application(1, 4), Edges.APPLIED);
            edges.due("climbers", x.count(2), 3);
        }
        ClimbPermits less = new ClimbPermits();
        less.save(1);
        Edges.open(less, 3, 0, 12);
        less.save(0);
        less.restore(1);
        less.save(0);
        less.restore(0);
        edges.due("less than was saved before", less.count(1) + less.count(2), 0);
    }

    private static void saveSlots() {
        ClimbPermits x = new ClimbPermits();
        edges.due("slot 0", x.save(0), 0);
        x.join();
        edges.due("slot 1", x.save(1), 0);
        x.join();
        x.restore(0);
        edges.due("what is in slot 0", x.count(2), 0);
        x.restore(1);
        edges.due("what is in slot 1", x.count(2), 1);
    }

    private static void saveToday() {
        ClimbPermits x = new ClimbPermits();
        edges.due("the first day", x.save(0), 0);
        Edges.endDays(x, 59);
        edges.due("the last day", x.save(1), 59);
        x.restore(0);
        edges.due("the first day again", x.save(1), 0);
    }

    private static void saveNoSlot() {
        for (int slot : new int[] {Edges.LOW, -1, 2, 3, Edges.HIGH}) {
            edges.refused("slot " + slot, Edges.BAD_VALUE, x -> x.join(), x -> x.save(slot));
        }
    }

    private static void restoreLast() {
        ClimbPermits x = Edges.office(2, 0, 1);
        for (int day = 0; day < 5; day++) {
            x.save(day % 2);
            x.end();
        }
        edges.due("the last one of slot 0", x.restore(0), 4);
        edges.due("today", x.count(0), 4);
        edges.due("the last one of slot 1", x.restore(1), 3);
        edges.due("today", x.count(0), 3);
        x.apply(0, 0, 3, 1);
        edges.due("what was not saved", x.restore(1), 3);
        edges.due("is gone", x.count(3), 0);
    }

    private static void restoreKeeps() {
        ClimbPermits x = Edges.office(2, 0, 2);
        Edges.won(x, 0, 0, 5, 1);
        x.save(0);
        for (int i = 0; i < 3; i++) {
            x.cancel(0);
            x.buffer(0, 2);
            Edges.lost(x, 1, 0, 5, 1);
            x.close(5);
            x.set(Edges.FEE, 7);
            x.join();
            x.route(1, 0);
            x.end();
            edges.due("restored", x.restore(0), 0);
            edges.due("the permit", x.application(0, 4), Edges.WON);
            edges.due("nothing refunded", x.application(0, 6), 0);
            edges.due("the buffer", x.onRoute(0, 5, 1), 0);
            edges.due("memory", x.climber(1, 0), 0);
            edges.due("closed days", x.count(13), 0);
            edges.due("FEE", x.count(15), 100);
            edges.due("routes, climbers and applications", x.count(1) * 100 + x.count(2) * 10 + x.count(3), 121);
        }
    }

    private static void restoreSlots() {
        for (int slot = 0; slot < 2; slot++) {
            ClimbPermits x = new ClimbPermits();
            x.save(slot);
            x.join();
            edges.due("slot " + slot, x.restore(slot), 0);
            edges.due("nobody", x.count(2), 0);
            edges.due("the other slot", x.restore(1 - slot), Edges.NOT_POSSIBLE);
        }
    }

    private static void restoreToday() {
        ClimbPermits x = new ClimbPermits();
        x.save(0);
        Edges.endDays(x, 59);
        x.save(1);
        edges.due("of the slot, not of before", x.restore(0), 0);
        edges.due("the last day", x.restore(1), 59);
        edges.due("it cannot end", x.end(), Edges.NOT_POSSIBLE);
    }

    private static void restoreNoSlot() {
        for (int slot : new int[] {Edges.LOW, -1, 2, 3, Edges.HIGH}) {
            edges.refused("slot " + slot, Edges.BAD_VALUE, EdgesOfTextsTest::bothSaved, x -> x.restore(slot));
        }
    }

    private static void bothSaved(ClimbPermits x) {
        x.save(0);
        x.join();
        x.save(1);
        x.join();
    }

    private static void restoreNothing() {
        for (int slot = 0; slot < 2; slot++) {
            int empty = slot;
            edges.refused("slot " + slot, Edges.NOT_POSSIBLE, x -> x.join(), x -> x.restore(empty));
            edges.refused("slot " + slot + " beside one that is saved", Edges.NOT_POSSIBLE, x -> {
                x.save(1 - empty);
                x.join();
            }, x -> x.restore(empty));
        }
        ClimbPermits x = new ClimbPermits();
        x.save(2);
        x.save(-1);
        edges.due("a slot that was refused is not saved", x.restore(0), Edges.NOT_POSSIBLE);
        edges.due("nor is the other one", x.restore(1), Edges.NOT_POSSIBLE);
    }
}
