import java.util.Arrays;

/** Doors that open outward into narrow lanes, and hinder one another there. */
public final class LaneDoors {
    /** There is none. */
    public static final int NONE = -1;

    private static final int MOST_BYTES = 1600;
    private static final int FED_BYTES = 20;
    private static final int MOST_LANES = 4;
    private static final int LONGEST = 16;
    private static final int BROADEST_LANE = 8;
    private static final int MOST_DOORS = 10;
    private static final int BROADEST_DOOR = 4;
    private static final int MOST_CORNERS = 6;
    private static final int MOST_UNITS = 30;
    private static final int DEEPEST = 7;
    private static final int MOST_STOCK = 999;
    private static final int MOST_DRAW = 999;
    private static final int MOST_OIL = 999;
    private static final int KEPT_ACTS = 40;
    private static final int BOXES = 3;
    private static final int LAST_DAY = 9999;
    private static final int MOST_GUSTS = 20;
    private static final int MOST_CHANGED = 3;
    private static final int MOST_HEARD = 30;
    private static final int LONGEST_WAIT = 1000;
    private static final int LAST_TIME = 100000;
    private static final int SETS = 1 << MOST_DOORS;
    private static final int SPOTS = MOST_LANES * LONGEST;
    private static final int NO_SUCH = -2;

    private final Tape tape = new Tape();
    private final Reader reader = new Reader(tape);
    private final History history = new History();
    private final State trial = new State();
    private final State[] boxes = new State[BOXES];
    private final Hearsay hearsay = new Hearsay();
    private final Opener opener = new Opener();
    private final Streets streets = new Streets();
    private final Pile pile = new Pile();
    private Plan plan = new Plan();
    private State now = new State();
    private int boxesKept = 0;

    /** An empty town. */
    public LaneDoors() {
        for (int i = 0; i < boxes.length; i++) {
            boxes[i] = new State();
        }
    }

    // ---- the tape and the town

    public int feed(int a, int b, int c, int d, int e) {
        if (tape.length > MOST_BYTES - FED_BYTES) {
            return NONE;
        }
        tape.append(a);
        tape.append(b);
        tape.append(c);
        tape.append(d);
        tape.append(e);
        return tape.length;
    }

    public int end(int n) {
        if (n < 0 || n > tape.length) {
            return NONE;
        }
        tape.length = n;
        return n;
    }

    public int town() {
        if (!reader.readTown()) {
            return NONE;
        }
        plan = reader.exchange(plan);
        tape.length = 0;
        now.begin(plan);
        history.forget();
        hearsay.forget();
        pile.clear();
        boxesKept = 0;
        return plan.doors;
    }

    public int fault(int what) {
        switch (what) {
            case 0: return reader.fault;
            case 1: return reader.faultPlace;
            default: return NONE;
        }
    }

    // ---- what is now

    public int door(int door, int what) {
        if (!plan.isDoor(door)) {
            return NO_SUCH;
        }
        switch (what) {
            case 0: return plan.doorLane[door];
            case 1: return plan.doorPlace[door];
            case 2: return plan.doorBroad[door];
            case 3: return plan.hingePlace(door, now.right);
            case 4: return bit(plan.south, door);
            case 5: return bit(now.open, door);
            case 6: return bit(now.off, door);
            case 7: return bit(plan.loose, door);
            case 8: return bit(plan.tied, door);
            case 9: return now.times[door];
            default: return NO_SUCH;
        }
    }

    public int can(int door) {
        return plan.isDoor(door) ? bit(now.openable(plan), door) : NONE;
    }

    public int hinders(int door, int other) {
        if (!plan.isDoor(door) || !plan.isDoor(other)) {
            return NONE;
        }
        return plan.standsAgainst(door, other, now.right) ? 1 : 0;
    }

    public int free(int lane, int place) {
        int spot = plan.spot(lane, place);
        if (spot == NONE) {
            return NONE;
        }
        streets.measure(plan, now.open, now.right);
        return streets.freeAt(spot);
    }

    public int pairs(int what) {
        if (!isZeroOrOne(what)) {
            return NONE;
        }
        int count = 0;
        for (int a = 0; a < plan.doors; a++) {
            for (int b = a + 1; b < plan.doors; b++) {
                boolean there = plan.standsAgainst(a, b, now.right);
                boolean back = plan.standsAgainst(b, a, now.right);
                if (what == 0 ? there || back : there && back) {
                    count++;
                }
            }
        }
        return count;
    }

    public int oil(int door) {
        return plan.isDoor(door) ? now.oilOf(plan, door) : NONE;
    }

    public int sum(int what) {
        if (what < 0 || what > 2) {
            return NONE;
        }
        int openable = now.openable(plan);
        if (what == 1) {
            return Integer.bitCount(openable);
        }
        int sum = 0;
        for (int d = 0; d < plan.doors; d++) {
            if (what == 0) {
                sum += now.times[d];
            } else if (bit(openable, d) == 1) {
                sum += now.oilOf(plan, d);
            }
        }
        return sum;
    }

    // ---- acts

    public int open(int door) {
        if (!plan.isDoor(door) || bit(now.openable(plan), door) == 0) {
            return NONE;
        }
        int price = now.oilOf(plan, door);
        if (price > now.stock) {
            return NONE;
        }
        history.keep(now);
        now.stock -= price;
        now.setOpen(door);
        return now.stock;
    }

    public boolean shut(int door) {
        if (!plan.isDoor(door) || bit(now.open & ~plan.tied, door) == 0) {
            return false;
        }
        history.keep(now);
        now.open &= ~(1 << door);
        return true;
    }

    public int hinge(int door) {
        if (!plan.isDoor(door) || bit(now.ready(plan), door) == 0) {
            return NONE;
        }
        history.keep(now);
        now.right ^= 1 << door;
        return plan.hingePlace(door, now.right);
    }

    public boolean off(int door) {
        if (!plan.isDoor(door) || bit(now.ready(plan), door) == 0) {
            return false;
        }
        history.keep(now);
        now.off |= 1 << door;
        return true;
    }

    public int cart(int lane, int from, int to, int n) {
        int pushed = pushedShut(lane, from, to, n);
        if (pushed == NONE) {
            return NONE;
        }
        history.keep(now);
        now.open &= ~pushed;
        return pushed;
    }

    public int day() {
        if (now.day >= LAST_DAY) {
            return NONE;
        }
        history.keep(now);
        now.day++;
        return now.day;
    }

    public int wind() {
        history.keep(now);
        return now.blow(plan);
    }

    public boolean undo() {
        if (history.done() == 0) {
            return false;
        }
        now = history.stepBack(now);
        return true;
    }

    public boolean redo() {
        if (history.undone() == 0) {
            return false;
        }
        now = history.stepOn(now);
        return true;
    }

    // ---- what can be open together

    public int orders(int set) {
        pile.clear();
        if (!isShutSet(set)) {
            return NONE;
        }
        opener.look(plan, now.right);
        opener.startFrom(now.open, now.ready(plan));
        int ways = opener.countOrders(set);
        opener.pileFirstOrder(set, pile);
        return ways;
    }

    public int most(int what) {
        if (!isZeroOrOne(what)) {
            return NONE;
        }
        return countOrBits(mostOpen(now.ready(plan), now.right), what);
    }

    public int stuck(int what) {
        if (!isZeroOrOne(what)) {
            return NONE;
        }
        opener.look(plan, now.right);
        opener.startFrom(now.open, now.ready(plan));
        return countOrBits(opener.fewestStuck(), what);
    }

    public int feast(int n, int what) {
        if (n < 0 || n > MOST_DOORS || !isZeroOrOne(what)) {
            return NONE;
        }
        opener.look(plan, now.right);
        opener.startFrom(now.open, now.ready(plan));
        for (int d = 0; d < plan.doors; d++) {
            opener.setPrice(d, now.oilOf(plan, d));
        }
        int opened = opener.cheapest(n);
        if (opened == NONE) {
            return NONE;
        }
        return what == 0 ? opener.priceOf(opened) : opened;
    }

    public int never(int door) {
        if (!plan.isDoor(door)) {
            return NONE;
        }
        int barred = plan.tied | now.off;
        int bits = 0;
        for (int other = 0; other < plan.doors; other++) {
            if (other != door && neverBoth(door, other, barred)) {
                bits |= 1 << other;
            }
        }
        return bits;
    }

    public int turn(int set, int what) {
        if (!isZeroOrOne(what) || !isShutSet(set)) {
            return NONE;
        }
        int turned = fewestTurned(set);
        return turned == NONE ? NONE : countOrBits(turned, what);
    }

    public int ask(int door) {
        return plan.isDoor(door) ? now.open & plan.hinderers(door, now.right) : NONE;
    }

    public int vow(int what) {
        if (!isZeroOrOne(what)) {
            return NONE;
        }
        int ready = now.ready(plan);
        int best = NONE;
        int bestDoor = NONE;
        for (int d = 0; d < plan.doors; d++) {
            if (bit(ready, d) == 1) {
                int count = Integer.bitCount(mostOpen(ready & ~(1 << d), now.right));
                if (count > best) {
                    best = count;
                    bestDoor = d;
                }
            }
        }
        return what == 0 ? best : bestDoor;
    }

    public int push(int lane, int from, int to, int n) {
        return pushedShut(lane, from, to, n);
    }

    public int gusts(int n) {
        if (n < 0 || n > MOST_GUSTS) {
            return NONE;
        }
        trial.copy(now);
        for (int i = 0; i < n; i++) {
            trial.blow(plan);
        }
        return trial.open;
    }

    public int good(int what) {
        if (!isZeroOrOne(what)) {
            return NONE;
        }
        int ready = now.ready(plan);
        int best = Integer.bitCount(mostOpen(ready, now.right));
        int bestDoor = NONE;
        for (int d = 0; d < plan.doors; d++) {
            if (bit(ready, d) == 1) {
                int count = Integer.bitCount(mostOpen(ready, now.right ^ (1 << d)));
                if (count > best) {
                    best = count;
                    bestDoor = d;
                }
            }
        }
        return what == 0 ? best : bestDoor;
    }

    // ---- ways for carts

    public int narrow(int lane, int what) {
        if (!plan.isLane(lane) || !isZeroOrOne(what)) {
            return NONE;
        }
        streets.measure(plan, now.open, now.right);
        int narrowest = 0;
        for (int place = 1; place < plan.laneLong[lane]; place++) {
            if (streets.freeAt(plan.spot(lane, place)) < streets.freeAt(plan.spot(lane, narrowest))) {
                narrowest = place;
            }
        }
        return what == 0 ? streets.freeAt(plan.spot(lane, narrowest)) : narrowest;
    }

    public int widest(int lane, int place, int toLane, int toPlace) {
        int from = plan.spot(lane, place);
        int to = plan.spot(toLane, toPlace);
        if (from == NONE || to == NONE) {
            return NONE;
        }
        streets.measure(plan, now.open, now.right);
        for (int n = BROADEST_LANE; n >= 1; n--) {
            if (streets.stepsBetween(plan, from, to, n) != NONE) {
                return n;
            }
        }
        return 0;
    }

    public int spread(int lane, int place, int n) {
        int from = plan.spot(lane, place);
        if (from == NONE || !isCart(n)) {
            return NONE;
        }
        streets.measure(plan, now.open, now.right);
        return streets.walkFrom(plan, from, n, NONE);
    }

    public int far(int lane, int place, int n) {
        pile.clear();
        int from = plan.spot(lane, place);
        if (from == NONE || !isCart(n)) {
            return NONE;
        }
        streets.measure(plan, now.open, now.right);
        if (streets.walkFrom(plan, from, n, NONE) == 0) {
            return NONE;
        }
        int farthest = streets.farthest();
        pile.put(spotNumber(farthest));
        return streets.stepsTo(farthest);
    }

    public int parts(int n, int what) {
        if (!isCart(n) || !isZeroOrOne(what)) {
            return NONE;
        }
        streets.measure(plan, now.open, now.right);
        int largest = streets.splitIntoParts(plan, n);
        return what == 0 ? streets.parts : largest;
    }

    public int calm() {
        trial.copy(now);
        for (int winds = 0; winds <= MOST_GUSTS; winds++) {
            if ((trial.openable(plan) & plan.loose) == 0) {
                return winds;
            }
            trial.blow(plan);
        }
        return NONE;
    }

    public int needs(int lane, int place, int toLane, int toPlace, int n) {
        pile.clear();
        int from = plan.spot(lane, place);
        int to = plan.spot(toLane, toPlace);
        if (from == NONE || to == NONE || !isCart(n)) {
            return NONE;
        }
        streets.measure(plan, now.open, now.right);
        if (streets.stepsBetween(plan, from, to, n) == NONE) {
            return NONE;
        }
        for (int spot = 0; spot < SPOTS; spot++) {
            if (spot != from && spot != to && streets.isNeeded(plan, from, to, n, spot)) {
                pile.put(spotNumber(spot));
            }
        }
        return pile.size;
    }

    public int way(int lane, int place, int toLane, int toPlace, int n) {
        int from = plan.spot(lane, place);
        int to = plan.spot(toLane, toPlace);
        if (from == NONE || to == NONE || !isCart(n)) {
            return NONE;
        }
        streets.measure(plan, now.open, now.right);
        return streets.stepsBetween(plan, from, to, n);
    }

    public int make(int lane, int place, int toLane, int toPlace, int n) {
        int from = plan.spot(lane, place);
        int to = plan.spot(toLane, toPlace);
        if (from == NONE || to == NONE || !isCart(n)) {
            return NONE;
        }
        int shuttable = now.open & ~plan.tied;
        for (int count = 0; count <= MOST_CHANGED; count++) {
            for (int set = 0; set <= shuttable; set++) {
                if (isPart(set, shuttable) && Integer.bitCount(set) == count) {
                    streets.measure(plan, now.open & ~set, now.right);
                    if (streets.stepsBetween(plan, from, to, n) != NONE) {
                        return set;
                    }
                }
            }
        }
        return NONE;
    }

    // ---- races and tales

    public int race(int mine, int his) {
        if (!isPart(mine, plan.allDoors()) || !isPart(his, plan.allDoors()) || (mine & his) != 0) {
            return NONE;
        }
        opener.look(plan, now.right);
        opener.startFrom(now.open, now.ready(plan));
        int door = opener.winningDoor(mine, his);
        return door == NONE ? 0 : 10 + door;
    }

    public int lies(int i) {
        return pile.at(i);
    }

    public int heard(int door, int other) {
        if (!plan.isDoor(door) || !plan.isDoor(other) || door == other) {
            return NONE;
        }
        return hearsay.tell(door, other);
    }

    public boolean untell(int heard) {
        return hearsay.takeBack(heard);
    }

    public int later(int by) {
        if (by < 0 || by > LONGEST_WAIT || hearsay.time + by > LAST_TIME) {
            return NONE;
        }
        hearsay.time += by;
        return hearsay.time;
    }

    public int tales(int set, int k) {
        pile.clear();
        if (!isTaleSet(set)) {
            return NONE;
        }
        startTales(set, k);
        int ways = opener.countOrders(set);
        opener.pileFirstOrder(set, pile);
        return ways;
    }

    public int firsts(int set, int k) {
        if (!isTaleSet(set)) {
            return NONE;
        }
        startTales(set, k);
        opener.countOrders(set);
        return opener.firstDoors(set);
    }

    public int ahead(int set, int door, int other, int k) {
        if (!isTaleSet(set) || !plan.isDoor(door) || !plan.isDoor(other) || door == other
                || bit(set, door) == 0 || bit(set, other) == 0) {
            return NONE;
        }
        startTales(set, k);
        opener.putAhead(door, other);
        return opener.countOrders(set);
    }

    // ---- images and counts

    public int image(int box) {
        if (box < 0 || box >= boxes.length) {
            return NONE;
        }
        boxes[box].copy(now);
        boxesKept |= 1 << box;
        return Integer.bitCount(now.open);
    }

    public int back(int box) {
        if (box < 0 || box >= boxes.length || bit(boxesKept, box) == 0) {
            return NONE;
        }
        now.copy(boxes[box]);
        history.forget();
        return Integer.bitCount(now.open);
    }

    public int about(int what) {
        switch (what) {
            case 0: return plan.doors;
            case 1: return plan.lanes;
            case 2: return plan.corners;
            case 3: return now.open;
            case 4: return now.off;
            case 5: return now.stock;
            case 6: return now.day;
            case 7: return now.seed;
            case 8: return history.done();
            case 9: return history.undone();
            case 10: return hearsay.count;
            case 11: return hearsay.time;
            case 12: return tape.length;
            case 13: return plan.oil.units;
            case 14: return pile.size;
            default: return NONE;
        }
    }

    // ---- what several promises share

    private static int bit(int set, int i) {
        return (set >> i) & 1;
    }

    private static boolean isPart(int set, int whole) {
        return (set & ~whole) == 0;
    }

    private static boolean isZeroOrOne(int what) {
        return what == 0 || what == 1;
    }

    private static boolean isCart(int n) {
        return n >= 1 && n <= BROADEST_LANE;
    }

    private static int countOrBits(int set, int what) {
        return what == 0 ? Integer.bitCount(set) : set;
    }

    private static int spotNumber(int spot) {
        return 100 * (spot / LONGEST) + spot % LONGEST;
    }

    private boolean isShutSet(int set) {
        return isPart(set, plan.allDoors() & ~now.open);
    }

    private boolean isTaleSet(int set) {
        return isPart(set, plan.allDoors() & ~plan.tied & ~now.off);
    }

    private int mostOpen(int ready, int right) {
        opener.look(plan, right);
        opener.startFrom(now.open, ready);
        return opener.mostOpen();
    }

    private boolean neverBoth(int door, int other, int barred) {
        if (bit(barred, door) == 1 || bit(barred, other) == 1) {
            return true;
        }
        return plan.standsAgainst(door, other, now.right) && plan.standsAgainst(other, door, now.right);
    }

    private int fewestTurned(int set) {
        opener.startFrom(now.open, now.ready(plan));
        // A door outside the set stays shut, so its hinge changes nothing.
        int turnable = now.ready(plan) & set;
        for (int count = 0; count <= MOST_CHANGED; count++) {
            for (int turned = 0; turned <= turnable; turned++) {
                if (isPart(turned, turnable) && Integer.bitCount(turned) == count) {
                    opener.look(plan, now.right ^ turned);
                    if (opener.hasOrder(set)) {
                        return turned;
                    }
                }
            }
        }
        return NONE;
    }

    private int pushedShut(int lane, int from, int to, int n) {
        if (plan.spot(lane, from) == NONE || plan.spot(lane, to) == NONE || from == to || !isCart(n)) {
            return NONE;
        }
        int pushed = now.pushedBy(plan, lane, from, to);
        streets.measure(plan, now.open & ~pushed, now.right);
        for (int place = Math.min(from, to); place <= Math.max(from, to); place++) {
            if (streets.freeAt(plan.spot(lane, place)) < n) {
                return NONE;
            }
        }
        return pushed;
    }

    private void startTales(int set, int k) {
        opener.look(plan, now.right);
        opener.startFrom(0, set);
        for (int i = 0; i < hearsay.count; i++) {
            if (hearsay.counts(i, k)) {
                opener.putAhead(hearsay.first[i], hearsay.second[i]);
            }
        }
    }

    /** The bytes that were fed and are no town yet. */
    private static final class Tape {
        private final byte[] bytes = new byte[MOST_BYTES];
        int length = 0;

        void append(int four) {
            for (int shift = 24; shift >= 0; shift -= 8) {
                if (length < bytes.length) {
                    bytes[length] = (byte) (four >> shift);
                    length++;
                }
            }
        }

        /** The byte at a place, 0 behind the end. */
        int at(int i) {
            return i >= 0 && i < length && i < bytes.length ? bytes[i] & 255 : 0;
        }
    }

    /** Cuts the tape into tokens, one at a time. */
    private static final class Lexer {
        static final int END = 90;
        static final int BAD = 91;
        static final int NUMBER = 92;
        static final int NAME = 93;
        // The words that stand for themselves, as they stand in WORDS; signs are their own numbers.
        static final int LANE = 100;
        static final int LONG = 101;
        static final int WIDE = 102;
        static final int DOOR = 103;
        static final int IN = 104;
        static final int AT = 105;
        static final int BROAD = 106;
        static final int LEFT = 107;
        static final int RIGHT = 108;
        static final int NORTH = 109;
        static final int SOUTH = 110;
        static final int LOOSE = 111;
        static final int TIED = 112;
        static final int OPEN = 113;
        static final int CORNER = 114;
        static final int WITH = 115;
        static final int OIL = 116;
        static final int STOCK = 117;
        static final int DRAW = 118;
        static final int OR = 119;
        static final int AND = 120;
        static final int NOT = 121;
        static final int TIMES = 122;
        static final int DAY = 123;
        static final int PLACE = 124;

        private static final int LONGEST_WORD = 8;
        private static final int LONGEST_NUMBER = 4;
        private static final String SIGNS = ";()<>=+-*/%";
        private static final int OWN_WORDS = 25;
        private static final String WORDS = "lane long wide door in at broad left right north south loose tied open corner with oil stock draw or and not times day place ";

        private final Tape tape;
        private final long[] ownWords = new long[OWN_WORDS];
        private int next = 0;
        int kind = END;
        int place = 0;
        int number = 0;
        // A word as a number to the base of 27, so that like words are like numbers.
        long word = 0;

        Lexer(Tape tape) {
            this.tape = tape;
            int count = 0;
            for (int i = 0; i < WORDS.length() && count < OWN_WORDS; i++) {
                if (WORDS.charAt(i) == ' ') {
                    count++;
                } else {
                    ownWords[count] = withLetter(ownWords[count], WORDS.charAt(i));
                }
            }
        }

        void restart() {
            next = 0;
            advance();
        }

        void advance() {
            while (next < tape.length && (tape.at(next) == ' ' || tape.at(next) == '\n')) {
                next++;
            }
            place = next;
            int c = tape.at(place);
            if (place >= tape.length) {
                kind = END;
            } else if (isLetter(c)) {
                takeWord();
            } else if (isDigit(c)) {
                takeNumber();
            } else if (SIGNS.indexOf((char) c) >= 0) {
                kind = c;
                next = place + 1;
            } else {
                kind = BAD;
            }
        }

        private void takeWord() {
            int behind = place;
            word = 0;
            while (behind < tape.length && isLetter(tape.at(behind))) {
                word = withLetter(word, tape.at(behind));
                behind++;
            }
            kind = behind - place > LONGEST_WORD ? BAD : wordKind();
            next = behind;
        }

        private int wordKind() {
            for (int w = 0; w < OWN_WORDS; w++) {
                if (ownWords[w] == word) {
                    return LANE + w;
                }
            }
            return NAME;
        }

        private void takeNumber() {
            int behind = place;
            number = 0;
            while (behind < tape.length && isDigit(tape.at(behind))) {
                number = 10 * number + tape.at(behind) - '0';
                behind++;
            }
            boolean isToken = behind - place <= LONGEST_NUMBER && !isLetter(tape.at(behind));
            kind = isToken ? NUMBER : BAD;
            next = behind;
        }

        private static long withLetter(long word, int letter) {
            return 27 * word + letter - 'a' + 1;
        }

        private static boolean isLetter(int c) {
            return c >= 'a' && c <= 'z';
        }

        private static boolean isDigit(int c) {
            return c >= '0' && c <= '9';
        }
    }

    /** Reads the tape as a town into a plan of its own, up to the first fault. */
    private static final class Reader {
        private static final int BAD_TOKEN = 1;
        private static final int MISPLACED = 2;
        private static final int TOLD_ALREADY = 3;
        private static final int BAD_NUMBER = 4;
        private static final int NO_LANE = 5;
        private static final int EITHER = 0;
        private static final int BOTH = 1;
        private static final int SUM = 2;
        private static final int TERM = 3;

        private final Lexer lexer;
        private final long[] laneNames = new long[MOST_LANES];
        private final long[] doorNames = new long[MOST_DOORS];
        private Plan plan = new Plan();
        private int told = 0;
        int fault = 0;
        int faultPlace = NONE;

        Reader(Tape tape) {
            lexer = new Lexer(tape);
        }

        /** Hands out the plan that was read, and takes another one to be written over. */
        Plan exchange(Plan other) {
            Plan read = plan;
            plan = other;
            return read;
        }

        boolean readTown() {
            plan.clear();
            told = 0;
            fault = 0;
            faultPlace = NONE;
            lexer.restart();
            for (int lines = 0; lines < MOST_BYTES && lexer.kind != Lexer.END; lines++) {
                if (!readLine()) {
                    return false;
                }
            }
            return true;
        }

        private boolean readLine() {
            switch (lexer.kind) {
                case Lexer.LANE: return plan.lanes < MOST_LANES ? readLane() : refuse(MISPLACED);
                case Lexer.DOOR: return plan.doors < MOST_DOORS ? readDoor() : refuse(MISPLACED);
                case Lexer.CORNER: return plan.corners < MOST_CORNERS ? readCorner() : refuse(MISPLACED);
                case Lexer.OIL: return beginOnce(1) && readChain(EITHER, 0) && expect(';');
                case Lexer.STOCK: return readStock();
                case Lexer.DRAW: return readDraw();
                default: return refuse(MISPLACED);
            }
        }

        private boolean readLane() {
            lexer.advance();
            if (!readNewName(laneNames, plan.lanes) || !expect(Lexer.LONG)) {
                return false;
            }
            int length = readNumber(1, LONGEST);
            if (length == NONE || !expect(Lexer.WIDE)) {
                return false;
            }
            int width = readNumber(1, BROADEST_LANE);
            if (width == NONE || !expect(';')) {
                return false;
            }
            plan.addLane(length, width);
            return true;
        }

        private boolean readDoor() {
            lexer.advance();
            if (!readNewName(doorNames, plan.doors) || !expect(Lexer.IN)) {
                return false;
            }
            int lane = readLaneName();
            if (!plan.isLane(lane) || !expect(Lexer.AT)) {
                return false;
            }
            int length = plan.laneLong[lane];
            int place = readNumber(0, length - 1);
            if (place == NONE || !expect(Lexer.BROAD)) {
                return false;
            }
            int broad = readNumber(1, Math.min(BROADEST_DOOR, length - place));
            if (broad == NONE) {
                return false;
            }
            plan.draftDoor(lane, place, broad);
            if (!readHinge() || !readSide()) {
                return false;
            }
            readDoorWords();
            if (!expect(';')) {
                return false;
            }
            plan.doors++;
            return true;
        }

        private boolean readHinge() {
            if (lexer.kind != Lexer.LEFT && lexer.kind != Lexer.RIGHT) {
                return refuse(MISPLACED);
            }
            if (lexer.kind == Lexer.RIGHT) {
                plan.right |= 1 << plan.doors;
            }
            lexer.advance();
            return true;
        }

        private boolean readSide() {
            if (lexer.kind != Lexer.NORTH && lexer.kind != Lexer.SOUTH) {
                return refuse(MISPLACED);
            }
            if (lexer.kind == Lexer.SOUTH) {
                plan.south |= 1 << plan.doors;
            }
            if (plan.draftOverlaps()) {
                return refuse(TOLD_ALREADY);
            }
            lexer.advance();
            return true;
        }

        private void readDoorWords() {
            int drafted = 1 << plan.doors;
            if (lexer.kind == Lexer.LOOSE) {
                plan.loose |= drafted;
                lexer.advance();
            }
            if (lexer.kind == Lexer.TIED) {
                plan.tied |= drafted;
                lexer.advance();
            }
            if (lexer.kind == Lexer.OPEN) {
                plan.open |= drafted;
                lexer.advance();
            }
        }

        private boolean readCorner() {
            lexer.advance();
            int lane = readLaneName();
            if (!plan.isLane(lane)) {
                return false;
            }
            int place = readNumber(0, plan.laneLong[lane] - 1);
            if (place == NONE || !expect(Lexer.WITH)) {
                return false;
            }
            if (lexer.kind == Lexer.NAME && laneOfName() == lane) {
                return refuse(TOLD_ALREADY);
            }
            int other = readLaneName();
            if (!plan.isLane(other)) {
                return false;
            }
            int otherPlace = readNumber(0, plan.laneLong[other] - 1);
            if (otherPlace == NONE || !expect(';')) {
                return false;
            }
            plan.addCorner(plan.spot(lane, place), plan.spot(other, otherPlace));
            return true;
        }

        private boolean readStock() {
            if (!beginOnce(2)) {
                return false;
            }
            plan.stock = readNumber(0, MOST_STOCK);
            return plan.stock != NONE && expect(';');
        }

        private boolean readDraw() {
            if (!beginOnce(4)) {
                return false;
            }
            plan.draw = readNumber(0, MOST_DRAW);
            return plan.draw != NONE && expect(';');
        }

        private boolean beginOnce(int sort) {
            if ((told & sort) != 0) {
                return refuse(MISPLACED);
            }
            told |= sort;
            lexer.advance();
            return true;
        }

        private boolean readChain(int level, int depth) {
            if (!readPart(level, depth)) {
                return false;
            }
            for (int parts = 1; parts < MOST_BYTES && joins(level, lexer.kind); parts++) {
                int joint = lexer.kind;
                lexer.advance();
                if (!readPart(level, depth)) {
                    return false;
                }
                plan.oil.add(-joint);
            }
            return true;
        }

        private boolean readPart(int level, int depth) {
            switch (level) {
                case EITHER: return readChain(BOTH, depth);
                case BOTH: return readOne(depth);
                case SUM: return readChain(TERM, depth);
                default: return readUnit(depth);
            }
        }

        private static boolean joins(int level, int kind) {
            switch (level) {
                case EITHER: return kind == Lexer.OR;
                case BOTH: return kind == Lexer.AND;
                case SUM: return kind == '+' || kind == '-';
                default: return kind == '*' || kind == '/' || kind == '%';
            }
        }

        private boolean readOne(int depth) {
            if (lexer.kind == Lexer.NOT) {
                if (depth >= DEEPEST) {
                    return refuse(MISPLACED);
                }
                lexer.advance();
                if (!readOne(depth + 1)) {
                    return false;
                }
                plan.oil.add(-Lexer.NOT);
                return true;
            }
            if (!readChain(SUM, depth)) {
                return false;
            }
            int relation = lexer.kind;
            if (relation != '<' && relation != '>' && relation != '=') {
                return true;
            }
            lexer.advance();
            if (!readChain(SUM, depth)) {
                return false;
            }
            plan.oil.add(-relation);
            return true;
        }

        private boolean readUnit(int depth) {
            int kind = lexer.kind;
            if (!beginsUnit(kind) || plan.oil.units >= MOST_UNITS) {
                return refuse(MISPLACED);
            }
            plan.oil.units++;
            if (kind != '(') {
                plan.oil.add(kind == Lexer.NUMBER ? lexer.number : -kind);
                lexer.advance();
                return true;
            }
            if (depth >= DEEPEST) {
                return refuse(MISPLACED);
            }
            lexer.advance();
            return readChain(EITHER, depth + 1) && expect(')');
        }

        private static boolean beginsUnit(int kind) {
            return kind == Lexer.NUMBER || kind == '(' || kind == Lexer.BROAD || kind == Lexer.TIMES
                    || kind == Lexer.DAY || kind == Lexer.PLACE;
        }

        private boolean readNewName(long[] names, int count) {
            if (lexer.kind != Lexer.NAME || count >= names.length) {
                return refuse(MISPLACED);
            }
            for (int i = 0; i < count; i++) {
                if (names[i] == lexer.word) {
                    return refuse(TOLD_ALREADY);
                }
            }
            names[count] = lexer.word;
            lexer.advance();
            return true;
        }

        private int readLaneName() {
            if (lexer.kind != Lexer.NAME) {
                refuse(MISPLACED);
                return NONE;
            }
            int lane = laneOfName();
            if (lane == NONE) {
                refuse(NO_LANE);
                return NONE;
            }
            lexer.advance();
            return lane;
        }

        private int laneOfName() {
            for (int i = 0; i < plan.lanes; i++) {
                if (laneNames[i] == lexer.word) {
                    return i;
                }
            }
            return NONE;
        }

        private int readNumber(int least, int most) {
            if (lexer.kind != Lexer.NUMBER) {
                refuse(MISPLACED);
                return NONE;
            }
            if (lexer.number < least || lexer.number > most) {
                refuse(BAD_NUMBER);
                return NONE;
            }
            int number = lexer.number;
            lexer.advance();
            return number;
        }

        private boolean expect(int kind) {
            if (lexer.kind != kind) {
                return refuse(MISPLACED);
            }
            lexer.advance();
            return true;
        }

        private boolean refuse(int kind) {
            fault = lexer.kind == Lexer.BAD ? BAD_TOKEN : kind;
            faultPlace = lexer.place;
            return false;
        }
    }

    /** A whole formula as steps for a stack: a number, or the negative of a word's or sign's number. */
    private static final class Formula {
        // Each step stands for a token; 30 units with 7 nots each and 29 joints are the most.
        private static final int MOST_STEPS = 300;

        private final int[] steps = new int[MOST_STEPS];
        private final int[] stack = new int[MOST_UNITS];
        private int size = 0;
        private int height = 0;
        int units = 0;

        void clear() {
            size = 0;
            units = 0;
        }

        void add(int step) {
            if (size < steps.length) {
                steps[size] = step;
                size++;
            }
        }

        /** What comes of it; 0 of none. */
        int value(int broad, int times, int day, int place) {
            height = 0;
            for (int i = 0; i < size; i++) {
                int step = steps[i];
                switch (-step) {
                    case Lexer.BROAD: put(broad); break;
                    case Lexer.TIMES: put(times); break;
                    case Lexer.DAY: put(day); break;
                    case Lexer.PLACE: put(place); break;
                    case Lexer.NOT: put(truth(take() == 0)); break;
                    default: putOther(step); break;
                }
            }
            return take();
        }

        private void putOther(int step) {
            if (step >= 0) {
                put(step);
                return;
            }
            int second = take();
            int first = take();
            put(joined(-step, first, second));
        }

        private static int joined(int joint, int first, int second) {
            switch (joint) {
                case Lexer.OR: return truth(first != 0 || second != 0);
                case Lexer.AND: return truth(first != 0 && second != 0);
                case '<': return truth(first < second);
                case '>': return truth(first > second);
                case '=': return truth(first == second);
                case '+': return first + second;
                case '-': return first - second;
                case '*': return first * second;
                case '/': return second == 0 ? 0 : first / second;
                case '%': return second == 0 ? 0 : first % second;
                default: return 0;
            }
        }

        private static int truth(boolean is) {
            return is ? 1 : 0;
        }

        private void put(int number) {
            if (height < stack.length) {
                stack[height] = number;
                height++;
            }
        }

        private int take() {
            if (height <= 0) {
                return 0;
            }
            height--;
            return stack[height];
        }
    }

    /** A town as told; what a door has or not stands as bits. */
    private static final class Plan {
        final int[] laneLong = new int[MOST_LANES];
        final int[] laneWide = new int[MOST_LANES];
        final int[] doorLane = new int[MOST_DOORS];
        final int[] doorPlace = new int[MOST_DOORS];
        final int[] doorBroad = new int[MOST_DOORS];
        final int[] cornerFrom = new int[MOST_CORNERS];
        final int[] cornerTo = new int[MOST_CORNERS];
        final Formula oil = new Formula();
        int lanes = 0;
        int doors = 0;
        int corners = 0;
        int south = 0;
        int right = 0;
        int loose = 0;
        int tied = 0;
        int open = 0;
        int stock = 0;
        int draw = 0;

        void clear() {
            lanes = 0;
            doors = 0;
            corners = 0;
            south = 0;
            right = 0;
            loose = 0;
            tied = 0;
            open = 0;
            stock = 0;
            draw = 0;
            oil.clear();
        }

        void addLane(int length, int width) {
            if (lanes < MOST_LANES) {
                laneLong[lanes] = length;
                laneWide[lanes] = width;
                lanes++;
            }
        }

        /** Writes the door that comes next; it is told only when doors goes up. */
        void draftDoor(int lane, int place, int broad) {
            if (doors < MOST_DOORS) {
                doorLane[doors] = lane;
                doorPlace[doors] = place;
                doorBroad[doors] = broad;
            }
        }

        boolean draftOverlaps() {
            if (doors >= MOST_DOORS) {
                return false;
            }
            for (int d = 0; d < doors; d++) {
                if (doorLane[d] == doorLane[doors] && bit(south, d) == bit(south, doors)
                        && doorPlace[d] < doorPlace[doors] + doorBroad[doors]
                        && doorPlace[doors] < doorPlace[d] + doorBroad[d]) {
                    return true;
                }
            }
            return false;
        }

        void addCorner(int from, int to) {
            if (corners < MOST_CORNERS) {
                cornerFrom[corners] = from;
                cornerTo[corners] = to;
                corners++;
            }
        }

        boolean isLane(int lane) {
            return lane >= 0 && lane < lanes;
        }

        boolean isDoor(int door) {
            return door >= 0 && door < doors;
        }

        int allDoors() {
            return (1 << doors) - 1;
        }

        /** The number of a place among all lanes' places; NONE if there is no such one. */
        int spot(int lane, int place) {
            if (!isLane(lane) || place < 0 || place >= laneLong[lane]) {
                return NONE;
            }
            return LONGEST * lane + place;
        }

        boolean isSpot(int spot) {
            return spot >= 0 && spot < SPOTS && spot(spot / LONGEST, spot % LONGEST) == spot;
        }

        int reach(int door) {
            return isDoor(door) ? Math.min(doorBroad[door], laneWide[doorLane[door]]) : 0;
        }

        int hingePlace(int door, int rightNow) {
            if (!isDoor(door)) {
                return NONE;
            }
            return bit(rightNow, door) == 0 ? doorPlace[door] : doorPlace[door] + doorBroad[door] - 1;
        }

        /** Whether a door, if it were open, hinders another one. */
        boolean standsAgainst(int door, int other, int rightNow) {
            if (!isDoor(door) || !isDoor(other) || doorLane[door] != doorLane[other]
                    || bit(south, door) == bit(south, other)) {
                return false;
            }
            int hinge = hingePlace(door, rightNow);
            return hinge >= doorPlace[other] && hinge < doorPlace[other] + doorBroad[other]
                    && reach(door) + reach(other) > laneWide[doorLane[door]];
        }

        /** The doors that would hinder a door, as bits. */
        int hinderers(int door, int rightNow) {
            int bits = 0;
            for (int d = 0; d < doors; d++) {
                if (standsAgainst(d, door, rightNow)) {
                    bits |= 1 << d;
                }
            }
            return bits;
        }
    }

    /** All that acts change. */
    private static final class State {
        int open = 0;
        int off = 0;
        int right = 0;
        int stock = 0;
        int day = 0;
        int seed = 0;
        final int[] times = new int[MOST_DOORS];

        void begin(Plan plan) {
            open = plan.open;
            off = 0;
            right = plan.right;
            stock = plan.stock;
            day = 0;
            seed = plan.draw;
            Arrays.fill(times, 0);
        }

        void copy(State from) {
            open = from.open;
            off = from.off;
            right = from.right;
            stock = from.stock;
            day = from.day;
            seed = from.seed;
            System.arraycopy(from.times, 0, times, 0, MOST_DOORS);
        }

        /** The doors that are shut, not tied and not off, as bits. */
        int ready(Plan plan) {
            return plan.allDoors() & ~open & ~plan.tied & ~off;
        }

        /** The doors that can be opened, as bits. */
        int openable(Plan plan) {
            int bits = ready(plan);
            for (int d = 0; d < plan.doors; d++) {
                if ((plan.hinderers(d, right) & open) != 0) {
                    bits &= ~(1 << d);
                }
            }
            return bits;
        }

        int oilOf(Plan plan, int door) {
            if (!plan.isDoor(door)) {
                return 0;
            }
            int price = plan.oil.value(plan.doorBroad[door], times[door], day, plan.doorPlace[door]);
            return Math.max(0, Math.min(MOST_OIL, price));
        }

        void setOpen(int door) {
            if (door >= 0 && door < times.length) {
                open |= 1 << door;
                times[door]++;
            }
        }

        /** A wind: the doors that it opened, as bits. */
        int blow(Plan plan) {
            seed = (seed * 137 + 71) % 1000;
            int before = open;
            for (int i = 0; i < plan.doors; i++) {
                int door = seed % 2 == 0 ? i : plan.doors - 1 - i;
                if (bit(ready(plan) & plan.loose, door) == 1 && (plan.hinderers(door, right) & open) == 0) {
                    setOpen(door);
                }
            }
            return open & ~before;
        }

        /** The open doors that a cart pushes shut on its way, as bits. */
        int pushedBy(Plan plan, int lane, int from, int to) {
            int bits = 0;
            boolean goesUp = to > from;
            for (int d = 0; d < plan.doors; d++) {
                int hinge = plan.hingePlace(d, right);
                boolean isMet = goesUp ? hinge > from && hinge <= to : hinge < from && hinge >= to;
                boolean yields = bit(open & ~plan.tied, d) == 1 && (bit(right, d) == 0) == goesUp;
                if (plan.doorLane[d] == lane && isMet && yields) {
                    bits |= 1 << d;
                }
            }
            return bits;
        }
    }

    /** A ring of states: behind each act that is done what was before it, of one undone what came of it. */
    private static final class History {
        private final State[] kept = new State[KEPT_ACTS];
        private int first = 0;
        private int done = 0;
        private int all = 0;

        History() {
            for (int i = 0; i < kept.length; i++) {
                kept[i] = new State();
            }
        }

        void forget() {
            first = 0;
            done = 0;
            all = 0;
        }

        int done() {
            return done;
        }

        int undone() {
            return all - done;
        }

        void keep(State now) {
            if (done == KEPT_ACTS) {
                first = (first + 1) % KEPT_ACTS;
                done--;
            }
            kept[at(done)].copy(now);
            done++;
            all = done;
        }

        State stepBack(State now) {
            if (done == 0) {
                return now;
            }
            done--;
            return swap(now);
        }

        State stepOn(State now) {
            if (done == all) {
                return now;
            }
            State next = swap(now);
            done++;
            return next;
        }

        private State swap(State now) {
            State other = kept[at(done)];
            kept[at(done)] = now;
            return other;
        }

        private int at(int i) {
            return Math.floorMod(first + i, KEPT_ACTS);
        }
    }

    /** What was heard, when it was told, and when it was untold. */
    private static final class Hearsay {
        final int[] first = new int[MOST_HEARD];
        final int[] second = new int[MOST_HEARD];
        private final int[] told = new int[MOST_HEARD];
        private final int[] untold = new int[MOST_HEARD];
        int count = 0;
        int time = 0;

        void forget() {
            count = 0;
        }

        int tell(int door, int other) {
            if (count >= MOST_HEARD) {
                return NONE;
            }
            first[count] = door;
            second[count] = other;
            told[count] = time;
            untold[count] = NONE;
            count++;
            return count - 1;
        }

        boolean takeBack(int i) {
            if (i < 0 || i >= count || untold[i] != NONE) {
                return false;
            }
            untold[i] = time;
            return true;
        }

        boolean counts(int i, int k) {
            if (i < 0 || i >= count || told[i] > k) {
                return false;
            }
            return untold[i] == NONE || untold[i] > k;
        }
    }

    /** Searches through the sets of doors that may come to be open, each set as bits. */
    private static final class Opener {
        private final int[] against = new int[MOST_DOORS];
        private final int[] earlier = new int[MOST_DOORS];
        private final int[] prices = new int[MOST_DOORS];
        private final int[] ways = new int[SETS];
        private final boolean[] marks = new boolean[SETS];
        private int open = 0;
        private int ready = 0;

        /** Who hinders whom, by the hinges. */
        void look(Plan plan, int right) {
            for (int d = 0; d < MOST_DOORS; d++) {
                against[d] = plan.hinderers(d, right);
            }
        }

        /** From which open doors the searches begin, and which ones may be opened. */
        void startFrom(int openAtFirst, int readyAtFirst) {
            open = openAtFirst & (SETS - 1);
            ready = readyAtFirst & (SETS - 1);
            Arrays.fill(earlier, 0);
        }

        void putAhead(int door, int other) {
            if (door >= 0 && other >= 0 && other < earlier.length) {
                earlier[other] |= 1 << door;
            }
        }

        void setPrice(int door, int price) {
            if (door >= 0 && door < prices.length) {
                prices[door] = price;
            }
        }

        int priceOf(int set) {
            int sum = 0;
            for (int d = 0; d < MOST_DOORS; d++) {
                sum += bit(set, d) * prices[d];
            }
            return sum;
        }

        /** In how many orders a set can be opened; ways tells of each part of it how many go on from it. */
        int countOrders(int set) {
            if (!isPart(set, SETS - 1)) {
                return 0;
            }
            for (int opened = set; opened >= 0; opened--) {
                if (isPart(opened, set)) {
                    ways[opened] = opened == set ? 1 : countOnward(set, opened);
                }
            }
            return ways[0];
        }

        private int countOnward(int set, int opened) {
            int sum = 0;
            for (int d = 0; d < MOST_DOORS; d++) {
                if (comesNext(set, opened, d)) {
                    sum += ways[opened | (1 << d)];
                }
            }
            return sum;
        }

        private boolean comesNext(int set, int opened, int door) {
            return bit(set & ~opened, door) == 1 && yieldsBehind(door, opened)
                    && isPart(earlier[door] & set, opened);
        }

        private boolean yieldsBehind(int door, int opened) {
            return bit(ready & ~opened, door) == 1 && (against[door] & (open | opened)) == 0;
        }

        /** The first order of the set that was counted last. */
        void pileFirstOrder(int set, Pile pile) {
            if (!isPart(set, SETS - 1) || ways[0] == 0) {
                return;
            }
            int opened = 0;
            for (int count = Integer.bitCount(set); count > 0; count--) {
                int door = firstOf(doorsOnward(set, opened));
                if (door != NONE) {
                    pile.put(door);
                    opened |= 1 << door;
                }
            }
        }

        /** Those of the set that was counted last that come first in some order. */
        int firstDoors(int set) {
            return isPart(set, SETS - 1) ? doorsOnward(set, 0) : 0;
        }

        private int doorsOnward(int set, int opened) {
            int bits = 0;
            for (int d = 0; d < MOST_DOORS; d++) {
                if (comesNext(set, opened, d) && ways[opened | (1 << d)] > 0) {
                    bits |= 1 << d;
                }
            }
            return bits;
        }

        private static int firstOf(int set) {
            return set == 0 ? NONE : Integer.numberOfTrailingZeros(set);
        }

        /** Whether a set has an order; without a door that can be last its hindrances go in a ring. */
        boolean hasOrder(int set) {
            if (!isPart(set, ready)) {
                return false;
            }
            int left = set;
            for (int count = Integer.bitCount(set); count > 0; count--) {
                int last = lastOf(left);
                if (last == NONE) {
                    return false;
                }
                left &= ~(1 << last);
            }
            return true;
        }

        private int lastOf(int set) {
            for (int d = 0; d < MOST_DOORS; d++) {
                if (bit(set, d) == 1 && yieldsBehind(d, set & ~(1 << d))) {
                    return d;
                }
            }
            return NONE;
        }

        /** Marks each set of doors that can be opened from the beginning. */
        private void markReached() {
            marks[0] = true;
            for (int set = 1; set <= ready; set++) {
                if (isPart(set, ready)) {
                    // If a set can be opened, it can be without any one of its doors: one last door tells all.
                    int last = lastOf(set);
                    marks[set] = last != NONE && marks[set & ~(1 << last)];
                }
            }
        }

        private boolean isReached(int set) {
            return isPart(set, ready) && marks[set];
        }

        /** The most doors that can be open, as bits; of like sets the least. */
        int mostOpen() {
            markReached();
            int best = 0;
            for (int set = 1; set <= ready; set++) {
                if (isReached(set) && Integer.bitCount(set) > Integer.bitCount(best)) {
                    best = set;
                }
            }
            return open | best;
        }

        /** The fewest open doors behind which none can be opened, as bits; of like sets the least. */
        int fewestStuck() {
            markReached();
            int best = NONE;
            for (int set = 0; set <= ready; set++) {
                if (isReached(set) && isStuck(set)
                        && (best == NONE || Integer.bitCount(set) < Integer.bitCount(best))) {
                    best = set;
                }
            }
            return best == NONE ? open : open | best;
        }

        private boolean isStuck(int opened) {
            for (int d = 0; d < MOST_DOORS; d++) {
                if (yieldsBehind(d, opened)) {
                    return false;
                }
            }
            return true;
        }

        /** So many doors that can be opened for the least oil, as bits; of like sets the least. */
        int cheapest(int count) {
            markReached();
            int best = NONE;
            for (int set = 0; set <= ready; set++) {
                if (Integer.bitCount(set) == count && isReached(set)
                        && (best == NONE || priceOf(set) < priceOf(best))) {
                    best = set;
                }
            }
            return best;
        }

        /** The first door by which the first one wins a race; NONE if by none. */
        int winningDoor(int mine, int his) {
            int both = (mine | his) & ready;
            for (int opened = both; opened >= 0; opened--) {
                if (isPart(opened, both)) {
                    // Who is on turn is told by how many are open; a mark says that he wins.
                    int own = Integer.bitCount(opened) % 2 == 0 ? mine : his;
                    marks[opened] = winningMove(own, opened) != NONE;
                }
            }
            return winningMove(mine, 0);
        }

        private int winningMove(int own, int opened) {
            for (int d = 0; d < MOST_DOORS; d++) {
                if (bit(own, d) == 1 && yieldsBehind(d, opened) && !marks[opened | (1 << d)]) {
                    return d;
                }
            }
            return NONE;
        }
    }

    /** What is free in the lanes, and the ways of carts through it. */
    private static final class Streets {
        private final int[] free = new int[SPOTS];
        private final int[] steps = new int[SPOTS];
        private final int[] queue = new int[SPOTS];
        private int queued = 0;
        int parts = 0;

        /** Takes the width at each place less what the open doors reach there; 0 where there is no place. */
        void measure(Plan plan, int open, int right) {
            for (int spot = 0; spot < SPOTS; spot++) {
                free[spot] = plan.isSpot(spot) ? plan.laneWide[spot / LONGEST] : 0;
            }
            for (int d = 0; d < plan.doors; d++) {
                int spot = plan.spot(plan.doorLane[d], plan.hingePlace(d, right));
                if (bit(open, d) == 1 && spot != NONE) {
                    free[spot] = Math.max(0, free[spot] - plan.reach(d));
                }
            }
        }

        int freeAt(int spot) {
            return spot >= 0 && spot < SPOTS ? free[spot] : 0;
        }

        int stepsTo(int spot) {
            return spot >= 0 && spot < SPOTS ? steps[spot] : NONE;
        }

        int stepsBetween(Plan plan, int from, int to, int n) {
            walkFrom(plan, from, n, NONE);
            return stepsTo(to);
        }

        boolean isNeeded(Plan plan, int from, int to, int n, int spot) {
            if (freeAt(spot) < n) {
                return false;
            }
            walkFrom(plan, from, n, spot);
            return stepsTo(to) == NONE;
        }

        /** Goes everywhere from a place, but not through a barred one: how many places. */
        int walkFrom(Plan plan, int from, int n, int barred) {
            Arrays.fill(steps, NONE);
            return walkOn(plan, from, n, barred);
        }

        private int walkOn(Plan plan, int from, int n, int barred) {
            queued = 0;
            stepTo(from, 0, n, barred);
            for (int i = 0; i < queued && i < SPOTS; i++) {
                int spot = queue[i];
                int next = steps[spot] + 1;
                int place = spot % LONGEST;
                if (place > 0) {
                    stepTo(spot - 1, next, n, barred);
                }
                if (place < LONGEST - 1) {
                    stepTo(spot + 1, next, n, barred);
                }
                for (int c = 0; c < plan.corners; c++) {
                    if (plan.cornerFrom[c] == spot) {
                        stepTo(plan.cornerTo[c], next, n, barred);
                    }
                    if (plan.cornerTo[c] == spot) {
                        stepTo(plan.cornerFrom[c], next, n, barred);
                    }
                }
            }
            return queued;
        }

        private void stepTo(int spot, int step, int n, int barred) {
            if (spot == barred || freeAt(spot) < n || stepsTo(spot) != NONE || queued >= SPOTS) {
                return;
            }
            steps[spot] = step;
            queue[queued] = spot;
            queued++;
        }

        /** The first of the places that took the most steps. */
        int farthest() {
            int best = 0;
            for (int spot = 1; spot < SPOTS; spot++) {
                if (steps[spot] > steps[best]) {
                    best = spot;
                }
            }
            return best;
        }

        /** Counts the parts into which the places fall: how many places the largest one has. */
        int splitIntoParts(Plan plan, int n) {
            Arrays.fill(steps, NONE);
            parts = 0;
            int largest = 0;
            for (int spot = 0; spot < SPOTS; spot++) {
                if (free[spot] >= n && steps[spot] == NONE) {
                    parts++;
                    largest = Math.max(largest, walkOn(plan, spot, n, NONE));
                }
            }
            return largest;
        }
    }

    /** The numbers that lie there. */
    private static final class Pile {
        private final int[] numbers = new int[SPOTS];
        int size = 0;

        void clear() {
            size = 0;
        }

        void put(int number) {
            if (size < numbers.length) {
                numbers[size] = number;
                size++;
            }
        }

        int at(int i) {
            return i >= 0 && i < size ? numbers[i] : NONE;
        }
    }
}
