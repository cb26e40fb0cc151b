/** What the tests share: towns told as texts, answers held against those that are due. */
final class Checks {
    private static int wrong = 0;
    private static int held = 0;

    private Checks() {
    }

    static void due(String call, int got, int want) {
        held++;
        if (got != want) {
            wrong++;
            System.out.println(call + " answered " + got + ", due is " + want);
        }
    }

    static void due(String call, boolean got, boolean want) {
        due(call, got ? 1 : 0, want ? 1 : 0);
    }

    /** Puts a text, and nothing else, on the tape. */
    static void feed(LaneDoors x, String text) {
        x.end(0);
        for (int i = 0; i < text.length(); i += 20) {
            int[] five = new int[5];
            for (int j = 0; j < 20; j++) {
                int c = i + j < text.length() ? text.charAt(i + j) : ' ';
                five[j / 4] = five[j / 4] << 8 | c;
            }
            x.feed(five[0], five[1], five[2], five[3], five[4]);
        }
        x.end(text.length());
    }

    static LaneDoors town(String text) {
        LaneDoors x = new LaneDoors();
        feed(x, text);
        if (x.town() < 0) {
            wrong++;
            System.out.println("fault " + x.fault(0) + " at " + x.fault(1) + ": " + text);
        }
        return x;
    }

    /** Holds a text's fault against the one that is due; the place is where the sign ^ stands in it. */
    static void fault(int kind, String marked) {
        int place = marked.indexOf('^');
        String text = marked.replace("^", "");
        LaneDoors x = new LaneDoors();
        feed(x, text);
        due("town() of " + text, x.town(), LaneDoors.NONE);
        due("fault(0) of " + text, x.fault(0), kind);
        due("fault(1) of " + text, x.fault(1), place);
    }

    static void fine(String text, int doors) {
        LaneDoors x = new LaneDoors();
        feed(x, text);
        due("town() of " + text, x.town(), doors);
        due("fault(0) of " + text, x.fault(0), 0);
        due("fault(1) of " + text, x.fault(1), LaneDoors.NONE);
    }

    /** Holds what lies there against the numbers that are due. */
    static void lie(String call, LaneDoors x, int... numbers) {
        due("about(14) behind " + call, x.about(14), numbers.length);
        for (int i = 0; i < numbers.length; i++) {
            due("lies(" + i + ") behind " + call, x.lies(i), numbers[i]);
        }
        due("lies(" + numbers.length + ") behind " + call, x.lies(numbers.length), LaneDoors.NONE);
        due("lies(-1) behind " + call, x.lies(-1), LaneDoors.NONE);
    }

    static void finish() {
        System.out.println(held + " answers looked at, " + wrong + " not as due");
        if (wrong != 0) {
            System.exit(1);
        }
    }
}
