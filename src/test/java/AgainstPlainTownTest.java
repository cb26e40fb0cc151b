import java.lang.reflect.Method;
import java.util.ArrayList;
import java.util.List;
import java.util.Random;

/** Runs of drawn calls, the same on LaneDoors and on PlainTown: each answer must be the same. */
public final class AgainstPlainTownTest {
    /** Each call of the face but feed, end and town, with the sorts of its arguments. */
    private static final String[] CALLS = {
        "fault what", "door door what", "can door", "hinders door door", "free lane place", "pairs what",
        "oil door", "sum what", "open door", "shut door", "hinge door", "off door", "cart lane place place n",
        "day", "wind", "undo", "redo", "orders set", "most what", "stuck what", "feast few what", "never door",
        "turn set what", "ask door", "vow what", "push lane place place n", "gusts few", "good what",
        "narrow lane what", "widest lane place lane place", "spread lane place n", "far lane place n",
        "parts n what", "calm", "needs lane place lane place n", "way lane place lane place n",
        "make lane place lane place n", "race set set", "lies few", "heard door door", "untell few",
        "later wait", "tales set time", "firsts set time", "ahead set door door time", "image box",
        "back box", "about count"};
    private static final String[] ACTS = {
        "open door", "shut door", "hinge door", "wind", "open door", "heard door door"};

    private final Random random;
    private LaneDoors real = new LaneDoors();
    private PlainTown plain = new PlainTown();
    private final StringBuilder log = new StringBuilder();
    private int doors = 3;
    private int time = 0;

    private AgainstPlainTownTest(long seed) {
        random = new Random(seed);
    }

    public static void main(String[] args) throws Exception {
        int runs = args.length > 0 ? Integer.parseInt(args[0]) : 600;
        long first = args.length > 1 ? Long.parseLong(args[1]) : 0;
        int towns = 0;
        int faults = 0;
        int[] answers = new int[CALLS.length];
        for (long seed = first; seed < first + runs; seed++) {
            AgainstPlainTownTest test = new AgainstPlainTownTest(seed);
            for (int i = 0; i < 12; i++) {
                if (test.tellTown()) {
                    towns++;
                } else {
                    faults++;
                }
                for (int c = 0; c < 25; c++) {
                    if (test.random.nextInt(3) == 0) {
                        test.call(ACTS[test.random.nextInt(ACTS.length)]);
                    }
                    int which = test.random.nextInt(CALLS.length);
                    answers[which] += test.call(CALLS[which]) > 0 ? 1 : 0;
                }
            }
        }
        for (int i = 0; i < CALLS.length; i++) {
            if (answers[i] == 0 && runs >= 100) {
                System.out.println("no draw made this call answer above 0: " + CALLS[i]);
                System.exit(1);
            }
        }
        System.out.println(towns + " towns and " + faults + " faults answered alike");
    }

    private int pick(int least, int most) {
        return least + random.nextInt(most - least + 1);
    }

    private int drawn(String sort) {
        boolean odd = random.nextInt(25) == 0;
        switch (sort) {
            case "what": return odd ? pick(-1, 12) : pick(0, 1) + (random.nextInt(4) == 0 ? pick(0, 8) : 0);
            case "door": return odd ? pick(-1, 10) : pick(0, Math.max(0, doors - 1));
            case "lane": return odd ? pick(-1, 4) : pick(0, 1);
            case "place": return odd ? pick(-1, 16) : pick(0, 6);
            case "n": return odd ? pick(-1, 9) : pick(1, 3);
            case "few": return odd ? pick(-1, 21) : pick(0, 4);
            case "box": return pick(odd ? -1 : 0, odd ? 3 : 2);
            case "count": return odd ? pick(-1, 15) : pick(0, 14);
            case "wait": return odd ? pick(-1, 1001) : pick(0, 3);
            case "time": return odd ? pick(-5, 100000) : time + pick(-3, 1);
            case "set":
                int set = random.nextInt(1 << doors) & (random.nextInt(3) > 0 ? random.nextInt(1 << doors) : -1);
                return odd ? pick(-1, 1100) : set;
            default: throw new IllegalStateException(sort);
        }
    }

    private int call(String call) throws Exception {
        String[] words = call.split(" ");
        Object[] args = new Object[words.length - 1];
        for (int i = 0; i < args.length; i++) {
            args[i] = drawn(words[i + 1]);
        }
        int answer = same(words[0], args);
        if (words[0].equals("later") && answer >= 0) {
            time = answer;
        }
        // What else the call may have changed shows in what lies there and in the counts.
        for (int what = 3; what <= 14; what++) {
            same("about", what);
        }
        for (int i = 0; i <= real.about(14); i++) {
            same("lies", i);
        }
        return answer;
    }

    private int same(String name, Object... args) throws Exception {
        Class<?>[] types = new Class<?>[args.length];
        java.util.Arrays.fill(types, int.class);
        Method theirs = LaneDoors.class.getMethod(name, types);
        Method ours = PlainTown.class.getMethod(name, types);
        Object got = theirs.invoke(real, args);
        Object due = ours.invoke(plain, args);
        log.append(name).append(java.util.Arrays.toString(args)).append(" = ").append(got).append('\n');
        if (!got.equals(due)) {
            System.out.println(log);
            System.out.println("due was " + due);
            System.exit(1);
        }
        return got instanceof Boolean b ? (b ? 1 : 0) : (Integer) got;
    }

    // ---- towns

    private boolean tellTown() throws Exception {
        log.setLength(0);
        if (random.nextInt(4) == 0) {
            real = new LaneDoors();
            plain = new PlainTown();
            time = 0;
        }
        String text = drawnTown();
        for (int changes = random.nextInt(3) == 0 ? pick(1, 2) : 0; changes > 0; changes--) {
            text = changed(text);
        }
        if (text.length() > 1600) {
            text = text.substring(0, 1600);
        }
        log.append(text).append('\n');
        same("end", 0);
        for (int i = 0; i < text.length(); i += 20) {
            int[] five = new int[5];
            for (int j = 0; j < 20; j++) {
                int c = i + j < text.length() ? text.charAt(i + j) : 32;
                five[j / 4] = five[j / 4] << 8 | c;
            }
            same("feed", five[0], five[1], five[2], five[3], five[4]);
        }
        same("end", text.length());
        int answer = same("town");
        same("fault", 0);
        same("fault", 1);
        doors = Math.max(1, real.about(0));
        return answer >= 0;
    }

    private String drawnTown() {
        List<String> lines = new ArrayList<>();
        int lanes = pick(1, 3);
        int[] lengths = new int[lanes];
        for (int i = 0; i < lanes; i++) {
            lengths[i] = pick(3, random.nextInt(8) == 0 ? 16 : 7);
            lines.add("lane l" + "abcd".charAt(i) + " long " + lengths[i] + " wide " + pick(1, 4) + ";");
        }
        List<String> taken = new ArrayList<>();
        int wanted = random.nextInt(10) == 0 ? pick(0, 8) : pick(2, 6);
        for (int tries = 0, n = 0; n < wanted && tries < 60; tries++) {
            int lane = random.nextInt(3) > 0 ? 0 : random.nextInt(lanes);
            int place = random.nextInt(lengths[lane]);
            int broad = Math.min(pick(1, 4), lengths[lane] - place);
            String side = random.nextBoolean() ? "north" : "south";
            List<String> own = new ArrayList<>();
            for (int p = place; p < place + broad; p++) {
                own.add(lane + side + p);
            }
            if (own.stream().anyMatch(taken::contains)) {
                continue;
            }
            taken.addAll(own);
            lines.add("door d" + "abcdefghij".charAt(n) + " in l" + "abcd".charAt(lane) + " at " + place
                    + " broad " + broad + (random.nextBoolean() ? " left " : " right ") + side
                    + (random.nextInt(3) == 0 ? " loose" : "") + (random.nextInt(10) == 0 ? " tied" : "")
                    + (random.nextInt(4) == 0 ? " open" : "") + ";");
            n++;
        }
        for (int i = pick(0, 4); i > 0 && lanes > 1; i--) {
            int a = random.nextInt(lanes);
            int b = (a + 1 + random.nextInt(lanes - 1)) % lanes;
            lines.add("corner l" + "abcd".charAt(a) + " " + random.nextInt(lengths[a]) + " with l"
                    + "abcd".charAt(b) + random.nextInt(lengths[b]) + ";");
        }
        if (random.nextInt(4) > 0) {
            lines.add(pick(0, lines.size()), "oil " + formula(pick(0, 3)) + ";");
        }
        if (random.nextInt(4) > 0) {
            lines.add(pick(0, lines.size()), "stock " + pick(0, 999) + ";");
        }
        if (random.nextInt(2) > 0) {
            lines.add(pick(0, lines.size()), "draw " + pick(0, 999) + ";");
        }
        return String.join(random.nextBoolean() ? "" : "\n ", lines);
    }

    private String formula(int depth) {
        String[] leaves = {"broad", "times", "day", "place", "" + pick(0, 20), "" + pick(0, 9999)};
        if (depth == 0) {
            return leaves[random.nextInt(leaves.length)];
        }
        String[] joints = {" + ", "-", "*", " / ", "%", "<", ">", "=", " or ", " and "};
        String a = formula(depth - 1);
        String b = formula(depth - 1);
        switch (random.nextInt(7)) {
            case 0: return "not " + a;
            case 1: return "(" + a + ")";
            case 2: return "(not " + a + ")*" + leaves[random.nextInt(leaves.length)];
            case 3: return "(" + a + ")" + joints[random.nextInt(joints.length)] + "(" + b + ")";
            default: return a + joints[random.nextInt(joints.length)] + b;
        }
    }

    private String changed(String text) {
        if (text.isEmpty()) {
            return text;
        }
        String[] bits = {"lane", "door", "open", "17", "0", "12345", ";", "(", ")", "not ", "abcdefghi", " x ",
            "5x", "\t", "lane la long 4 wide 2;", "oil 1;", "corner la 0 with la 1;", " tied", "loose",
            "door da in la at 0 broad 1 left north;", "corner lb 0 with lz 1;", "north", "A", "\u00e9", "\0"};
        int at = random.nextInt(text.length());
        switch (random.nextInt(5)) {
            case 0: return text.substring(0, at) + text.substring(at + 1);
            case 1: return text.substring(0, at) + (char) pick(32, 126) + text.substring(at + 1);
            case 2: return text.substring(0, at);
            case 3:
                int semicolon = text.indexOf(';', at);
                int line = semicolon < 0 ? at : semicolon + 1;
                return text.substring(0, line) + bits[random.nextInt(bits.length)] + text.substring(line);
            default:
                int blank = text.indexOf(' ', at);
                int word = blank < 0 ? at : blank;
                return text.substring(0, word) + bits[random.nextInt(bits.length)] + text.substring(word);
        }
    }
}
