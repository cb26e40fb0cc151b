import java.util.ArrayList;
import java.util.HashSet;
import java.util.LinkedHashMap;
import java.util.List;
import java.util.Map;
import java.util.Set;
import java.util.TreeSet;

/**
 * The document's promises once more, as slow and plain as can be: sets of numbers in place of bits,
 * orders tried one by one, a text cut into tokens at once. LaneDoors is held against it.
 */
final class PlainTown {
    static final class Fault extends RuntimeException {
        final int kind;
        final int place;

        Fault(int kind, int place) {
            super("fault " + kind + " at " + place);
            this.kind = kind;
            this.place = place;
        }
    }

    record Token(String text, int place) { }

    record Place(int lane, int at) { }

    static final class Door {
        int lane;
        int place;
        int broad;
        boolean right;
        boolean south;
        boolean loose;
        boolean tied;
        boolean open;
        boolean off;
        int times;

        Door copy() {
            Door d = new Door();
            d.lane = lane;
            d.place = place;
            d.broad = broad;
            d.right = right;
            d.south = south;
            d.loose = loose;
            d.tied = tied;
            d.open = open;
            d.off = off;
            d.times = times;
            return d;
        }

        int hinge() {
            return right ? place + broad - 1 : place;
        }
    }

    interface Expr {
        int of(int broad, int times, int day, int place);
    }

    /** What acts change. */
    static final class Now {
        List<Door> doors = new ArrayList<>();
        int stock;
        int day;
        int seed;

        Now copy() {
            Now n = new Now();
            for (Door d : doors) {
                n.doors.add(d.copy());
            }
            n.stock = stock;
            n.day = day;
            n.seed = seed;
            return n;
        }

        int open() {
            int bits = 0;
            for (int i = 0; i < doors.size(); i++) {
                bits |= doors.get(i).open ? 1 << i : 0;
            }
            return bits;
        }
    }

    record Told(int first, int second, int at, int[] untold) { }

    private static final Set<String> WORDS = Set.of("lane", "long", "wide", "door", "in", "at", "broad",
            "left", "right", "north", "south", "loose", "tied", "open", "corner", "with", "oil", "stock",
            "draw", "or", "and", "not", "times", "day", "place");

    private StringBuilder tape = new StringBuilder();
    private int faultKind = 0;
    private int faultPlace = -1;
    private List<int[]> lanes = new ArrayList<>();
    private List<Place[]> corners = new ArrayList<>();
    private Expr oil = (b, t, d, p) -> 0;
    private int units = 0;
    private Now now = new Now();
    private final List<Now> undo = new ArrayList<>();
    private final List<Now> redo = new ArrayList<>();
    private final Now[] boxes = new Now[3];
    private final List<Told> heard = new ArrayList<>();
    private int time = 0;
    private List<Integer> lying = new ArrayList<>();

    // ---- 2 to 5

    public int feed(int a, int b, int c, int d, int e) {
        if (tape.length() + 20 > 1600) {
            return -1;
        }
        for (int x : new int[] {a, b, c, d, e}) {
            tape.append((char) (x >>> 24)).append((char) (x >>> 16 & 255));
            tape.append((char) (x >>> 8 & 255)).append((char) (x & 255));
        }
        return tape.length();
    }

    public int end(int n) {
        if (n < 0 || n > tape.length()) {
            return -1;
        }
        tape.setLength(n);
        return n;
    }

    public int town() {
        Parser p = new Parser(tape.toString());
        try {
            p.parse();
        } catch (Fault f) {
            faultKind = f.kind;
            faultPlace = f.place;
            return -1;
        }
        faultKind = 0;
        faultPlace = -1;
        lanes = p.lanes;
        corners = p.corners;
        oil = p.oil;
        units = p.units;
        now = new Now();
        now.doors = p.doors;
        now.stock = Math.max(0, p.stock);
        now.seed = Math.max(0, p.draw);
        undo.clear();
        redo.clear();
        heard.clear();
        lying.clear();
        boxes[0] = boxes[1] = boxes[2] = null;
        tape = new StringBuilder();
        return now.doors.size();
    }

    public int fault(int what) {
        return what == 0 ? faultKind : what == 1 ? faultPlace : -1;
    }

    static final class Parser {
        final String text;
        final List<int[]> lanes = new ArrayList<>();
        final List<Place[]> corners = new ArrayList<>();
        final List<Door> doors = new ArrayList<>();
        final Map<String, Integer> laneNames = new LinkedHashMap<>();
        final Set<String> doorNames = new HashSet<>();
        Expr oil = (b, t, d, p) -> 0;
        boolean oilTold;
        int units = 0;
        int stock = -1;
        int draw = -1;
        int at = 0;
        Token token;

        Parser(String text) {
            this.text = text;
        }

        void next() {
            while (at < text.length() && (text.charAt(at) == 32 || text.charAt(at) == 10)) {
                at++;
            }
            String rest = text.substring(at);
            if (rest.isEmpty()) {
                token = new Token("", at);
                return;
            }
            String word = rest.replaceFirst("(?s)[^a-z].*", "");
            String digits = rest.replaceFirst("(?s)[^0-9].*", "");
            String t;
            if (!word.isEmpty()) {
                t = word.length() <= 8 ? word : "?";
            } else if (!digits.isEmpty()) {
                String behind = rest.substring(digits.length());
                t = digits.length() <= 4 && !behind.matches("(?s)[a-z].*") ? digits : "?";
            } else {
                t = ";()<>=+-*/%".indexOf(rest.charAt(0)) >= 0 ? rest.substring(0, 1) : "?";
            }
            token = new Token(t, at);
            at += t.length();
        }

        Fault fault(int kind) {
            return new Fault(token.text.equals("?") ? 1 : kind, token.place);
        }

        void expect(String what) {
            if (!token.text.equals(what)) {
                throw fault(2);
            }
            next();
        }

        boolean isName() {
            return token.text.matches("[a-z]+") && !WORDS.contains(token.text);
        }

        int number(int least, int most) {
            if (!token.text.matches("[0-9]+")) {
                throw fault(2);
            }
            int n = Integer.parseInt(token.text);
            if (n < least || n > most) {
                throw fault(4);
            }
            next();
            return n;
        }

        int laneName(int not) {
            if (!isName()) {
                throw fault(2);
            }
            Integer lane = laneNames.get(token.text);
            if (lane == null) {
                throw fault(5);
            }
            if (lane == not) {
                throw fault(3);
            }
            next();
            return lane;
        }

        void parse() {
            next();
            while (!token.text.isEmpty()) {
                String word = token.text;
                boolean may = switch (word) {
                    case "lane" -> lanes.size() < 4;
                    case "door" -> doors.size() < 10;
                    case "corner" -> corners.size() < 6;
                    case "oil" -> !oilTold;
                    case "stock" -> stock < 0;
                    case "draw" -> draw < 0;
                    default -> false;
                };
                if (!may) {
                    throw fault(2);
                }
                next();
                switch (word) {
                    case "lane" -> lane();
                    case "door" -> door();
                    case "corner" -> {
                        int a = laneName(-1);
                        int x = number(0, lanes.get(a)[0] - 1);
                        expect("with");
                        int b = laneName(a);
                        int y = number(0, lanes.get(b)[0] - 1);
                        corners.add(new Place[] {new Place(a, x), new Place(b, y)});
                    }
                    case "oil" -> {
                        oilTold = true;
                        oil = e(0);
                    }
                    case "stock" -> stock = number(0, 999);
                    default -> draw = number(0, 999);
                }
                expect(";");
            }
        }

        void lane() {
            if (!isName()) {
                throw fault(2);
            }
            String name = token.text;
            if (laneNames.containsKey(name)) {
                throw fault(3);
            }
            next();
            expect("long");
            int length = number(1, 16);
            expect("wide");
            int width = number(1, 8);
            laneNames.put(name, lanes.size());
            lanes.add(new int[] {length, width});
        }

        void door() {
            if (!isName()) {
                throw fault(2);
            }
            if (!doorNames.add(token.text)) {
                throw fault(3);
            }
            next();
            Door d = new Door();
            expect("in");
            d.lane = laneName(-1);
            expect("at");
            d.place = number(0, lanes.get(d.lane)[0] - 1);
            expect("broad");
            if (token.text.matches("[0-9]+")
                    && d.place + Integer.parseInt(token.text) > lanes.get(d.lane)[0]) {
                throw fault(4);
            }
            d.broad = number(1, 4);
            d.right = token.text.equals("right");
            expect(d.right ? "right" : "left");
            d.south = token.text.equals("south");
            if (!d.south && !token.text.equals("north")) {
                throw fault(2);
            }
            for (Door o : doors) {
                for (int x = 0; x < o.broad; x++) {
                    int p = o.place + x;
                    if (o.lane == d.lane && o.south == d.south && p >= d.place && p < d.place + d.broad) {
                        throw fault(3);
                    }
                }
            }
            next();
            d.loose = option("loose");
            d.tied = option("tied");
            d.open = option("open");
            doors.add(d);
        }

        boolean option(String word) {
            boolean is = token.text.equals(word);
            if (is) {
                next();
            }
            return is;
        }

        Expr e(int within) {
            Expr left = both(within);
            while (token.text.equals("or")) {
                next();
                Expr a = left;
                Expr b = both(within);
                left = (w, t, d, p) -> a.of(w, t, d, p) != 0 | b.of(w, t, d, p) != 0 ? 1 : 0;
            }
            return left;
        }

        Expr both(int within) {
            Expr left = one(within);
            while (token.text.equals("and")) {
                next();
                Expr a = left;
                Expr b = one(within);
                left = (w, t, d, p) -> a.of(w, t, d, p) != 0 & b.of(w, t, d, p) != 0 ? 1 : 0;
            }
            return left;
        }

        Expr one(int within) {
            if (token.text.equals("not")) {
                if (within > 6) {
                    throw fault(2);
                }
                next();
                Expr a = one(within + 1);
                return (w, t, d, p) -> a.of(w, t, d, p) == 0 ? 1 : 0;
            }
            Expr a = sum(within);
            String r = token.text;
            if (!r.equals("<") && !r.equals(">") && !r.equals("=")) {
                return a;
            }
            next();
            Expr b = sum(within);
            return (w, t, d, p) -> {
                int c = Integer.compare(a.of(w, t, d, p), b.of(w, t, d, p));
                return (r.equals("<") ? c < 0 : r.equals(">") ? c > 0 : c == 0) ? 1 : 0;
            };
        }

        Expr sum(int within) {
            Expr left = term(within);
            while (token.text.equals("+") || token.text.equals("-")) {
                boolean plus = token.text.equals("+");
                next();
                Expr a = left;
                Expr b = term(within);
                left = (w, t, d, p) -> a.of(w, t, d, p) + (plus ? b.of(w, t, d, p) : -b.of(w, t, d, p));
            }
            return left;
        }

        Expr term(int within) {
            Expr left = unit(within);
            while (token.text.matches("[*/%]")) {
                String sign = token.text;
                next();
                Expr a = left;
                Expr b = unit(within);
                left = (w, t, d, p) -> {
                    int x = a.of(w, t, d, p);
                    int y = b.of(w, t, d, p);
                    return sign.equals("*") ? x * y : y == 0 ? 0 : sign.equals("/") ? x / y : x % y;
                };
            }
            return left;
        }

        Expr unit(int within) {
            String t = token.text;
            if (!t.matches("[0-9]+|broad|times|day|place|\\(") || units == 30) {
                throw fault(2);
            }
            units++;
            if (t.equals("(")) {
                if (within > 6) {
                    throw fault(2);
                }
                next();
                Expr inner = e(within + 1);
                expect(")");
                return inner;
            }
            next();
            return switch (t) {
                case "broad" -> (w, x, d, p) -> w;
                case "times" -> (w, x, d, p) -> x;
                case "day" -> (w, x, d, p) -> d;
                case "place" -> (w, x, d, p) -> p;
                default -> (w, x, d, p) -> Integer.parseInt(t);
            };
        }
    }

    // ---- 6 to 12

    private boolean is(int door) {
        return door >= 0 && door < now.doors.size();
    }

    private int reach(Door d) {
        return Math.min(d.broad, lanes.get(d.lane)[1]);
    }

    private boolean against(Door a, Door b) {
        return a != b && a.lane == b.lane && a.south != b.south
                && a.hinge() >= b.place && a.hinge() <= b.place + b.broad - 1
                && reach(a) + reach(b) > lanes.get(a.lane)[1];
    }

    private boolean can(Now n, int door) {
        Door d = n.doors.get(door);
        if (d.open || d.tied || d.off) {
            return false;
        }
        for (Door o : n.doors) {
            if (o.open && against(o, d)) {
                return false;
            }
        }
        return true;
    }

    private int free(Now n, Place p) {
        int left = lanes.get(p.lane)[1];
        for (Door d : n.doors) {
            if (d.open && d.lane == p.lane && d.hinge() == p.at) {
                left -= reach(d);
            }
        }
        return Math.max(0, left);
    }

    private int oil(Now n, int door) {
        Door d = n.doors.get(door);
        return Math.max(0, Math.min(999, oil.of(d.broad, d.times, n.day, d.place)));
    }

    private boolean isPlace(int lane, int place) {
        return lane >= 0 && lane < lanes.size() && place >= 0 && place < lanes.get(lane)[0];
    }

    public int door(int door, int what) {
        if (!is(door)) {
            return -2;
        }
        Door d = now.doors.get(door);
        return switch (what) {
            case 0 -> d.lane;
            case 1 -> d.place;
            case 2 -> d.broad;
            case 3 -> d.hinge();
            case 4 -> d.south ? 1 : 0;
            case 5 -> d.open ? 1 : 0;
            case 6 -> d.off ? 1 : 0;
            case 7 -> d.loose ? 1 : 0;
            case 8 -> d.tied ? 1 : 0;
            case 9 -> d.times;
            default -> -2;
        };
    }

    public int can(int door) {
        return !is(door) ? -1 : can(now, door) ? 1 : 0;
    }

    public int hinders(int door, int other) {
        return !is(door) || !is(other) ? -1 : against(now.doors.get(door), now.doors.get(other)) ? 1 : 0;
    }

    public int free(int lane, int place) {
        return isPlace(lane, place) ? free(now, new Place(lane, place)) : -1;
    }

    public int pairs(int what) {
        if (what != 0 && what != 1) {
            return -1;
        }
        int n = 0;
        for (Door a : now.doors) {
            for (Door b : now.doors) {
                boolean counts = what == 0 ? against(a, b) || against(b, a) : against(a, b) && against(b, a);
                n += counts ? 1 : 0;
            }
        }
        return n / 2;
    }

    public int oil(int door) {
        return is(door) ? oil(now, door) : -1;
    }

    public int sum(int what) {
        int[] sums = new int[3];
        for (int i = 0; i < now.doors.size(); i++) {
            sums[0] += now.doors.get(i).times;
            if (can(now, i)) {
                sums[1]++;
                sums[2] += oil(now, i);
            }
        }
        return what >= 0 && what < 3 ? sums[what] : -1;
    }

    // ---- 13 to 21

    private void act() {
        undo.add(now.copy());
        redo.clear();
        if (undo.size() > 40) {
            undo.remove(0);
        }
    }

    public int open(int door) {
        if (!is(door) || !can(now, door) || oil(now, door) > now.stock) {
            return -1;
        }
        act();
        now.stock -= oil(now, door);
        now.doors.get(door).open = true;
        now.doors.get(door).times++;
        return now.stock;
    }

    public boolean shut(int door) {
        if (!is(door) || !now.doors.get(door).open || now.doors.get(door).tied) {
            return false;
        }
        act();
        now.doors.get(door).open = false;
        return true;
    }

    private boolean movable(int door) {
        Door d = is(door) ? now.doors.get(door) : null;
        return d != null && !d.open && !d.tied && !d.off;
    }

    public int hinge(int door) {
        if (!movable(door)) {
            return -1;
        }
        act();
        Door d = now.doors.get(door);
        d.right = !d.right;
        return d.hinge();
    }

    public boolean off(int door) {
        if (!movable(door)) {
            return false;
        }
        act();
        now.doors.get(door).off = true;
        return true;
    }

    public int push(int lane, int from, int to, int n) {
        if (!isPlace(lane, from) || !isPlace(lane, to) || from == to || n < 1 || n > 8) {
            return -1;
        }
        Now then = now.copy();
        int step = Integer.signum(to - from);
        int bits = 0;
        for (int at = from; at != to; at += step) {
            int come = at + step;
            for (int i = 0; i < then.doors.size(); i++) {
                Door d = then.doors.get(i);
                if (d.open && !d.tied && d.lane == lane && d.hinge() == come && d.right == step < 0) {
                    d.open = false;
                    bits |= 1 << i;
                }
            }
        }
        for (int at = from; at != to + step; at += step) {
            if (free(then, new Place(lane, at)) < n) {
                return -1;
            }
        }
        return bits;
    }

    public int cart(int lane, int from, int to, int n) {
        int pushed = push(lane, from, to, n);
        if (pushed >= 0) {
            act();
            for (int i = 0; i < now.doors.size(); i++) {
                if ((pushed >> i & 1) == 1) {
                    now.doors.get(i).open = false;
                }
            }
        }
        return pushed;
    }

    public int day() {
        if (now.day == 9999) {
            return -1;
        }
        act();
        return ++now.day;
    }

    private int blow(Now n) {
        int before = n.open();
        n.seed = (137 * n.seed + 71) % 1000;
        List<Integer> turns = new ArrayList<>();
        for (int i = 0; i < n.doors.size(); i++) {
            turns.add(n.seed % 2 == 0 ? turns.size() : 0, i);
        }
        for (int i : turns) {
            if (n.doors.get(i).loose && can(n, i)) {
                n.doors.get(i).open = true;
                n.doors.get(i).times++;
            }
        }
        return n.open() - before;
    }

    public int wind() {
        act();
        return blow(now);
    }

    public boolean undo() {
        if (undo.isEmpty()) {
            return false;
        }
        redo.add(now);
        now = undo.remove(undo.size() - 1);
        return true;
    }

    public boolean redo() {
        if (redo.isEmpty()) {
            return false;
        }
        undo.add(now);
        now = redo.remove(redo.size() - 1);
        return true;
    }

    // ---- 22 to 32

    /** The members of a set of doors; null if one of them is no door. */
    private List<Integer> members(int set) {
        if (set < 0 || set >= 1 << now.doors.size()) {
            return null;
        }
        List<Integer> list = new ArrayList<>();
        for (int i = 0; i < now.doors.size(); i++) {
            if ((set >> i & 1) == 1) {
                list.add(i);
            }
        }
        return list;
    }

    private List<Integer> shutMembers(int set) {
        List<Integer> list = members(set);
        if (list != null) {
            for (int i : list) {
                if (now.doors.get(i).open) {
                    return null;
                }
            }
        }
        return list;
    }

    private void allOrders(Now n, List<Integer> left, List<Integer> soFar, List<List<Integer>> all) {
        if (left.isEmpty()) {
            all.add(new ArrayList<>(soFar));
            return;
        }
        for (int i : left) {
            if (can(n, i)) {
                n.doors.get(i).open = true;
                soFar.add(i);
                List<Integer> rest = new ArrayList<>(left);
                rest.remove((Integer) i);
                allOrders(n, rest, soFar, all);
                soFar.remove(soFar.size() - 1);
                n.doors.get(i).open = false;
            }
        }
    }

    private boolean someOrder(Now n, List<Integer> left) {
        if (left.isEmpty()) {
            return true;
        }
        for (int i : left) {
            if (can(n, i)) {
                n.doors.get(i).open = true;
                List<Integer> rest = new ArrayList<>(left);
                rest.remove((Integer) i);
                boolean is = someOrder(n, rest);
                n.doors.get(i).open = false;
                if (is) {
                    return true;
                }
            }
        }
        return false;
    }

    public int orders(int set) {
        lying = new ArrayList<>();
        List<Integer> list = shutMembers(set);
        if (list == null) {
            return -1;
        }
        List<List<Integer>> all = new ArrayList<>();
        allOrders(now.copy(), list, new ArrayList<>(), all);
        if (!all.isEmpty()) {
            lying = all.get(0);
        }
        return all.size();
    }

    private void reached(Now n, Set<Integer> seen) {
        if (!seen.add(n.open())) {
            return;
        }
        for (int i = 0; i < n.doors.size(); i++) {
            if (can(n, i)) {
                n.doors.get(i).open = true;
                reached(n, seen);
                n.doors.get(i).open = false;
            }
        }
    }

    private Set<Integer> reached(Now n) {
        Set<Integer> seen = new TreeSet<>();
        reached(n.copy(), seen);
        return seen;
    }

    private int most(Now n) {
        int best = -1;
        for (int set : reached(n)) {
            if (best < 0 || Integer.bitCount(set) > Integer.bitCount(best)) {
                best = set;
            }
        }
        return best;
    }

    private static int told(int set, int what) {
        return what == 0 ? Integer.bitCount(set) : what == 1 ? set : -1;
    }

    public int most(int what) {
        return told(most(now), what);
    }

    private Now with(int open) {
        Now n = now.copy();
        for (int i = 0; i < n.doors.size(); i++) {
            n.doors.get(i).open = (open >> i & 1) == 1;
        }
        return n;
    }

    public int stuck(int what) {
        int best = -1;
        for (int set : reached(now)) {
            Now n = with(set);
            boolean any = false;
            for (int i = 0; i < n.doors.size(); i++) {
                any |= can(n, i);
            }
            if (!any && (best < 0 || Integer.bitCount(set) < Integer.bitCount(best))) {
                best = set;
            }
        }
        return told(best, what);
    }

    public int feast(int n, int what) {
        int best = -1;
        int bestSet = -1;
        for (int set : reached(now)) {
            int more = set - now.open();
            if (Integer.bitCount(more) == n) {
                int cost = 0;
                for (int i : members(more)) {
                    cost += oil(now, i);
                }
                if (best < 0 || cost < best) {
                    best = cost;
                    bestSet = more;
                }
            }
        }
        return what == 0 ? best : what == 1 ? bestSet : -1;
    }

    public int never(int door) {
        if (!is(door)) {
            return -1;
        }
        int bits = 0;
        for (int i = 0; i < now.doors.size(); i++) {
            if (i != door && !someOrder(with(0), List.of(i, door))) {
                bits |= 1 << i;
            }
        }
        return bits;
    }

    public int turn(int set, int what) {
        List<Integer> list = shutMembers(set);
        if (list == null) {
            return -1;
        }
        int best = -1;
        for (int turned = 0; turned < 1 << now.doors.size(); turned++) {
            boolean may = Integer.bitCount(turned) <= 3
                    && (best < 0 || Integer.bitCount(turned) < Integer.bitCount(best));
            Now n = now.copy();
            for (int i : members(turned)) {
                may &= movable(i);
                n.doors.get(i).right = !n.doors.get(i).right;
            }
            if (may && someOrder(n, list)) {
                best = turned;
            }
        }
        return best < 0 ? -1 : told(best, what);
    }

    public int ask(int door) {
        if (!is(door)) {
            return -1;
        }
        int bits = 0;
        for (int i = 0; i < now.doors.size(); i++) {
            bits |= now.doors.get(i).open && against(now.doors.get(i), now.doors.get(door)) ? 1 << i : 0;
        }
        return bits;
    }

    public int vow(int what) {
        int best = -1;
        int who = -1;
        for (int i = 0; i < now.doors.size(); i++) {
            if (movable(i)) {
                Now n = now.copy();
                n.doors.get(i).off = true;
                int count = Integer.bitCount(most(n));
                if (count > best) {
                    best = count;
                    who = i;
                }
            }
        }
        return what == 0 ? best : what == 1 ? who : -1;
    }

    public int gusts(int n) {
        if (n < 0 || n > 20) {
            return -1;
        }
        Now then = now.copy();
        for (int i = 0; i < n; i++) {
            blow(then);
        }
        return then.open();
    }

    public int good(int what) {
        int best = Integer.bitCount(most(now));
        int who = -1;
        for (int i = 0; i < now.doors.size(); i++) {
            if (movable(i)) {
                Now n = now.copy();
                n.doors.get(i).right = !n.doors.get(i).right;
                int count = Integer.bitCount(most(n));
                if (count > best) {
                    best = count;
                    who = i;
                }
            }
        }
        return what == 0 ? best : what == 1 ? who : -1;
    }

    // ---- 33 to 41

    public int narrow(int lane, int what) {
        if (!isPlace(lane, 0)) {
            return -1;
        }
        int best = 0;
        for (int p = 0; p < lanes.get(lane)[0]; p++) {
            best = free(lane, p) < free(lane, best) ? p : best;
        }
        return what == 0 ? free(lane, best) : what == 1 ? best : -1;
    }

    /** Steps to each place that can be come to, spreading till nothing changes. */
    private Map<Place, Integer> steps(Now n, Place from, int broad, Place without) {
        Map<Place, Integer> steps = new LinkedHashMap<>();
        if (free(n, from) < broad || from.equals(without)) {
            return steps;
        }
        steps.put(from, 0);
        for (int round = 1; round <= 64; round++) {
            for (Place a : new ArrayList<>(steps.keySet())) {
                for (Place b : nextTo(a)) {
                    if (steps.get(a) == round - 1 && !steps.containsKey(b) && !b.equals(without)
                            && free(n, b) >= broad) {
                        steps.put(b, round);
                    }
                }
            }
        }
        return steps;
    }

    private List<Place> nextTo(Place a) {
        List<Place> list = new ArrayList<>();
        for (Place b : places()) {
            boolean next = a.lane == b.lane && Math.abs(a.at - b.at) == 1;
            for (Place[] c : corners) {
                next |= c[0].equals(a) && c[1].equals(b) || c[1].equals(a) && c[0].equals(b);
            }
            if (next) {
                list.add(b);
            }
        }
        return list;
    }

    private List<Place> places() {
        List<Place> list = new ArrayList<>();
        for (int lane = 0; lane < lanes.size(); lane++) {
            for (int p = 0; p < lanes.get(lane)[0]; p++) {
                list.add(new Place(lane, p));
            }
        }
        return list;
    }

    public int way(int lane, int place, int toLane, int toPlace, int n) {
        if (!isPlace(lane, place) || !isPlace(toLane, toPlace) || n < 1 || n > 8) {
            return -1;
        }
        return steps(now, new Place(lane, place), n, null).getOrDefault(new Place(toLane, toPlace), -1);
    }

    public int widest(int lane, int place, int toLane, int toPlace) {
        if (!isPlace(lane, place) || !isPlace(toLane, toPlace)) {
            return -1;
        }
        int best = 0;
        for (int n = 1; n <= 8; n++) {
            best = way(lane, place, toLane, toPlace, n) >= 0 ? n : best;
        }
        return best;
    }

    public int spread(int lane, int place, int n) {
        if (!isPlace(lane, place) || n < 1 || n > 8) {
            return -1;
        }
        return steps(now, new Place(lane, place), n, null).size();
    }

    public int far(int lane, int place, int n) {
        lying = new ArrayList<>();
        int best = -1;
        if (spread(lane, place, n) > 0) {
            Map<Place, Integer> steps = steps(now, new Place(lane, place), n, null);
            for (Place p : places()) {
                if (steps.getOrDefault(p, -1) > best) {
                    best = steps.get(p);
                    lying = new ArrayList<>(List.of(100 * p.lane + p.at));
                }
            }
        }
        return best;
    }

    public int parts(int n, int what) {
        if (n < 1 || n > 8) {
            return -1;
        }
        Set<Set<Place>> all = new HashSet<>();
        int largest = 0;
        for (Place p : places()) {
            Set<Place> part = new HashSet<>(steps(now, p, n, null).keySet());
            largest = Math.max(largest, part.size());
            if (!part.isEmpty()) {
                all.add(part);
            }
        }
        return what == 0 ? all.size() : what == 1 ? largest : -1;
    }

    public int calm() {
        Now n = now.copy();
        for (int winds = 0; winds <= 20; winds++) {
            boolean any = false;
            for (int i = 0; i < n.doors.size(); i++) {
                any |= n.doors.get(i).loose && can(n, i);
            }
            if (!any) {
                return winds;
            }
            blow(n);
        }
        return -1;
    }

    public int needs(int lane, int place, int toLane, int toPlace, int n) {
        lying = new ArrayList<>();
        if (way(lane, place, toLane, toPlace, n) < 0) {
            return -1;
        }
        Place from = new Place(lane, place);
        Place to = new Place(toLane, toPlace);
        for (Place p : places()) {
            if (!p.equals(from) && !p.equals(to) && !steps(now, from, n, p).containsKey(to)) {
                lying.add(100 * p.lane + p.at);
            }
        }
        return lying.size();
    }

    public int make(int lane, int place, int toLane, int toPlace, int n) {
        if (!isPlace(lane, place) || !isPlace(toLane, toPlace) || n < 1 || n > 8) {
            return -1;
        }
        int best = -1;
        for (int set = 0; set < 1 << now.doors.size(); set++) {
            boolean may = Integer.bitCount(set) <= 3
                    && (best < 0 || Integer.bitCount(set) < Integer.bitCount(best));
            for (int i : members(set)) {
                may &= now.doors.get(i).open && !now.doors.get(i).tied;
            }
            if (may && steps(with(now.open() & ~set), new Place(lane, place), n, null)
                    .containsKey(new Place(toLane, toPlace))) {
                best = set;
            }
        }
        return best;
    }

    // ---- 42 to 49

    private int winner(Now n, List<Integer> own, List<Integer> other) {
        for (int i : own) {
            if (can(n, i)) {
                n.doors.get(i).open = true;
                int answer = winner(n, other, own);
                n.doors.get(i).open = false;
                if (answer == 0) {
                    return 10 + i;
                }
            }
        }
        return 0;
    }

    public int race(int mine, int his) {
        if (members(mine) == null || members(his) == null || (mine & his) != 0) {
            return -1;
        }
        return winner(now.copy(), members(mine), members(his));
    }

    public int lies(int i) {
        return i >= 0 && i < lying.size() ? lying.get(i) : -1;
    }

    public int heard(int door, int other) {
        if (!is(door) || !is(other) || door == other || heard.size() == 30) {
            return -1;
        }
        heard.add(new Told(door, other, time, new int[] {Integer.MAX_VALUE}));
        return heard.size() - 1;
    }

    public boolean untell(int i) {
        if (i < 0 || i >= heard.size() || heard.get(i).untold[0] != Integer.MAX_VALUE) {
            return false;
        }
        heard.get(i).untold[0] = time;
        return true;
    }

    public int later(int by) {
        if (by < 0 || by > 1000 || time + by > 100000) {
            return -1;
        }
        time += by;
        return time;
    }

    /** All tales in their order; null if one can't be. */
    private List<List<Integer>> allTales(int set, int k) {
        List<Integer> list = members(set);
        if (list == null) {
            return null;
        }
        for (int i : list) {
            if (now.doors.get(i).tied || now.doors.get(i).off) {
                return null;
            }
        }
        List<List<Integer>> all = new ArrayList<>();
        allOrders(with(0), list, new ArrayList<>(), all);
        List<List<Integer>> good = new ArrayList<>();
        for (List<Integer> tale : all) {
            boolean is = true;
            for (Told t : heard) {
                boolean counts = t.at <= k && !(t.untold[0] != Integer.MAX_VALUE && t.untold[0] <= k);
                if (counts && tale.contains(t.first) && tale.contains(t.second)) {
                    is &= tale.indexOf(t.first) < tale.indexOf(t.second);
                }
            }
            if (is) {
                good.add(tale);
            }
        }
        return good;
    }

    public int tales(int set, int k) {
        lying = new ArrayList<>();
        List<List<Integer>> all = allTales(set, k);
        if (all == null) {
            return -1;
        }
        if (!all.isEmpty()) {
            lying = all.get(0);
        }
        return all.size();
    }

    public int firsts(int set, int k) {
        List<List<Integer>> all = allTales(set, k);
        if (all == null) {
            return -1;
        }
        int bits = 0;
        for (List<Integer> tale : all) {
            bits |= tale.isEmpty() ? 0 : 1 << tale.get(0);
        }
        return bits;
    }

    public int ahead(int set, int door, int other, int k) {
        List<List<Integer>> all = allTales(set, k);
        if (all == null || !is(door) || !is(other) || door == other || !members(set).contains(door)
                || !members(set).contains(other)) {
            return -1;
        }
        int n = 0;
        for (List<Integer> tale : all) {
            n += tale.indexOf(door) < tale.indexOf(other) ? 1 : 0;
        }
        return n;
    }

    // ---- 50 to 52

    public int image(int box) {
        if (box < 0 || box > 2) {
            return -1;
        }
        boxes[box] = now.copy();
        return Integer.bitCount(now.open());
    }

    public int back(int box) {
        if (box < 0 || box > 2 || boxes[box] == null) {
            return -1;
        }
        now = boxes[box].copy();
        undo.clear();
        redo.clear();
        return Integer.bitCount(now.open());
    }

    public int about(int what) {
        int off = 0;
        for (int i = 0; i < now.doors.size(); i++) {
            off |= now.doors.get(i).off ? 1 << i : 0;
        }
        int[] all = {now.doors.size(), lanes.size(), corners.size(), now.open(), off, now.stock, now.day,
            now.seed, undo.size(), redo.size(), heard.size(), time, tape.length(), units, lying.size()};
        return what >= 0 && what < all.length ? all[what] : -1;
    }
}
