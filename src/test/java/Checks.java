import java.io.IOException;
import java.nio.file.Files;
import java.nio.file.Path;
import java.util.function.Predicate;
import java.util.function.ToIntFunction;

/** What the tests share: towns told as texts, answers held against those that are due. */
final class Checks {
    private static final Path DOCUMENT = Path.of("../shared/DOC.md");
    /** Numbers that are no doors, lanes, places, boxes, .. whatever the town is. */
    static final int[] FAR_OUT = {-1, -2, -32, 16, 31, 32, 33, 64, 1000, Integer.MIN_VALUE, Integer.MAX_VALUE};

    private static int wrong = 0;
    private static int held = 0;
    private static String sentence = "";

    private Checks() {
    }

    /** Names the sentence that the next lines hold the class to, and holds that the document has it there. */
    static void says(int promise, String words) {
        sentence = "";
        String section = section(promise);
        due("Promise " + promise + " says '" + words + "'", section.contains(words), true);
        sentence = "[" + promise + ": " + words + "] ";
    }

    /** A promise's section of the document; of 0 its terms. */
    private static String section(int promise) {
        try {
            String text = Files.readString(DOCUMENT);
            int from = text.indexOf(promise == 0 ? "## Terms" : "## Promise " + promise + ":");
            int to = text.indexOf("\n## ", from + 1);
            return from < 0 || to < 0 ? "" : text.substring(from, to);
        } catch (IOException e) {
            return "";
        }
    }

    static void due(String call, int got, int want) {
        held++;
        if (got != want) {
            wrong++;
            System.out.println(sentence + call + " answered " + got + ", due is " + want);
        }
    }

    static void due(String call, boolean got, boolean want) {
        due(call, got ? 1 : 0, want ? 1 : 0);
    }

    /** Holds that a call answers so and that nothing that can be seen is changed by it. */
    static void still(LaneDoors x, String call, ToIntFunction<LaneDoors> asked, int want) {
        String before = seen(x);
        due(call, asked.applyAsInt(x), want);
        String after = seen(x);
        due(call + " changed " + before + " to " + after + ", which", !before.equals(after), false);
    }

    /** Holds that a call is refused with false and does nothing. */
    static void refused(LaneDoors x, String call, Predicate<LaneDoors> asked) {
        still(x, call, y -> asked.test(y) ? 1 : 0, 0);
    }

    /** Holds that a call is refused with NONE and does nothing. */
    static void none(LaneDoors x, String call, ToIntFunction<LaneDoors> asked) {
        still(x, call, asked, LaneDoors.NONE);
    }

    /** Holds that a call is refused with NONE, and that nothing lies there then, whatever did. */
    static void noneAndCleared(LaneDoors x, String call, ToIntFunction<LaneDoors> asked) {
        layOne(x);
        String before = seenBesideThePile(x);
        due(call, asked.applyAsInt(x), LaneDoors.NONE);
        due(call + " did something else, which", !before.equals(seenBesideThePile(x)), false);
        lie(call, x);
    }

    /** Lets a number lie there; the town must have a lane that is free for 1 at its first place. */
    private static void layOne(LaneDoors x) {
        x.far(0, 0, 1);
        due("numbers that lie there at first", x.about(14), 1);
    }

    /** Holds that a call is an act: it is counted, it can be undone and done again. */
    static void act(LaneDoors x, String call, ToIntFunction<LaneDoors> asked, int want) {
        int acts = x.about(8);
        String before = seenBesideActs(x);
        due(call, asked.applyAsInt(x), want);
        String after = seenBesideActs(x);
        due("acts behind " + call, x.about(8), acts + 1);
        due("undo() of " + call, x.undo(), true);
        due(call + " is taken back", seenBesideActs(x).equals(before), true);
        due("redo() of " + call, x.redo(), true);
        due(call + " is done again", seenBesideActs(x).equals(after), true);
    }

    private static String seen(LaneDoors x) {
        StringBuilder all = new StringBuilder(seenBesideThePile(x));
        for (int i = 0; i <= x.about(14); i++) {
            all.append(" lies ").append(x.lies(i));
        }
        return all.toString();
    }

    private static String seenBesideThePile(LaneDoors x) {
        return seenBesideActs(x) + " acts " + x.about(8) + " " + x.about(9);
    }

    private static String seenBesideActs(LaneDoors x) {
        StringBuilder all = new StringBuilder();
        for (int what = 0; what <= 13; what++) {
            all.append(what == 8 || what == 9 ? "" : x.about(what) + " ");
        }
        for (int d = 0; d < x.about(0); d++) {
            all.append("door");
            for (int what = 0; what <= 9; what++) {
                all.append(' ').append(x.door(d, what));
            }
            all.append(" oil ").append(x.oil(d)).append(' ');
        }
        return all + "fault " + x.fault(0) + " " + x.fault(1);
    }

    /** Puts a text, and nothing else, on the tape. */
    static void feed(LaneDoors x, String text) {
        x.end(0);
        for (int i = 0; i < text.length(); i += 20) {
            int[] five = new int[5];
            for (int j = 0; j < 20; j++) {
                int c = i + j < text.length() ? text.charAt(i + j) : ' ';
                five[j / 4] = five[j / 4] << 8 | c;
            }
            x.feed(five[0], five[1], five[2], five[3], five[4]);
        }
        x.end(text.length());
    }

    static LaneDoors town(String text) {
        LaneDoors x = new LaneDoors();
        feed(x, text);
        if (x.town() < 0) {
            wrong++;
            System.out.println(sentence + "fault " + x.fault(0) + " at " + x.fault(1) + ": " + text);
        }
        return x;
    }

    /** Holds a text's fault against the one that is due; the place is where the sign ^ stands in it. */
    static void fault(int kind, String marked) {
        int place = marked.indexOf('^');
        String text = marked.replace("^", "");
        LaneDoors x = new LaneDoors();
        feed(x, text);
        due("town() of " + text, x.town(), LaneDoors.NONE);
        due("fault(0) of " + text, x.fault(0), kind);
        due("fault(1) of " + text, x.fault(1), place);
    }

    static void fine(String text, int doors) {
        LaneDoors x = new LaneDoors();
        feed(x, text);
        due("town() of " + text, x.town(), doors);
        due("fault(0) of " + text, x.fault(0), 0);
        due("fault(1) of " + text, x.fault(1), LaneDoors.NONE);
    }

    /** Holds what lies there against the numbers that are due. */
    static void lie(String call, LaneDoors x, int... numbers) {
        due("about(14) behind " + call, x.about(14), numbers.length);
        for (int i = 0; i < numbers.length; i++) {
            due("lies(" + i + ") behind " + call, x.lies(i), numbers[i]);
        }
        due("lies(" + numbers.length + ") behind " + call, x.lies(numbers.length), LaneDoors.NONE);
        due("lies(-1) behind " + call, x.lies(-1), LaneDoors.NONE);
    }

    static void finish() {
        System.out.println(held + " answers looked at, " + wrong + " not as due");
        if (wrong != 0) {
            System.exit(1);
        }
    }
}
