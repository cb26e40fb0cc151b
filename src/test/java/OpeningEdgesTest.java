/** Terms 3 and promises 22 to 32, sentence by sentence: the edges of what can be open together. */
public final class OpeningEdgesTest {
    // a and b hinder each other, c hinders d, e is tied and open, f is tied and shut.
    private static final String TOWN = "lane main long 8 wide 3;lane side long 4 wide 2;"
            + "door a in main at 0 broad 2 left north;door b in main at 0 broad 2 right south;"
            + "door c in main at 3 broad 1 left south loose;door d in main at 3 broad 3 right north;"
            + "door e in side at 1 broad 3 left north tied open;door f in side at 0 broad 1 left south tied;"
            + "oil broad * 2 + times;stock 9;draw 2;";
    private static final int ALL = 63;

    public static void main(String[] args) {
        orders();
        most();
        stuck();
        feast();
        never();
        turn();
        ask();
        vow();
        push();
        gusts();
        good();
        Checks.finish();
    }

    /** Ten doors in a row, none against another one. */
    private static String ten(String rest) {
        StringBuilder text = new StringBuilder("lane l long 16 wide 8;" + rest);
        for (int i = 0; i < 10; i++) {
            text.append("door ").append((char) ('a' + i)).append(" in l at ").append(i).append(" broad 1 left north loose;");
        }
        return text.toString();
    }

    /** Lanes with two doors each that hinder each other; the first ones of all lanes are told ahead of the second ones. */
    private static String against(int lanes, String first, String second) {
        StringBuilder text = new StringBuilder();
        for (int i = 0; i < lanes; i++) {
            text.append("lane l").append((char) ('a' + i)).append(" long 8 wide 3;");
        }
        for (int i = 0; i < lanes; i++) {
            text.append("door n").append((char) ('a' + i)).append(" in l").append((char) ('a' + i))
                    .append(" at 0 broad 2 right north").append(first).append(';');
        }
        for (int i = lanes - 1; i >= 0; i--) {
            text.append("door s").append((char) ('a' + i)).append(" in l").append((char) ('a' + i))
                    .append(" at 1 broad 2 left south").append(second).append(';');
        }
        return text.toString();
    }

    private static void orders() {
        Checks.says(0, "in how many orders all of them can be opened; the first one (by numbers, the less first)");
        LaneDoors ten = Checks.town(ten(""));
        Checks.due("orders of ten", ten.orders(1023), 3628800);
        Checks.lie("orders of ten", ten, 0, 1, 2, 3, 4, 5, 6, 7, 8, 9);
        Checks.due("orders of the last one", ten.orders(512), 1);
        Checks.lie("orders of the last one", ten, 9);
        Checks.due("orders of two", ten.orders(514), 2);
        Checks.lie("orders of two", ten, 1, 9);
        LaneDoors x = Checks.town(TOWN);
        Checks.due("orders of d, then c", x.orders(12), 1);
        Checks.lie("orders of d, then c", x, 3, 2);
        Checks.due("orders of b, d, then c", x.orders(14), 3);
        Checks.lie("orders of b, d, then c", x, 1, 3, 2);
        Checks.says(22, "ORDERS: how many (1 of none)");
        Checks.due("orders(0)", x.orders(0), 1);
        Checks.lie("orders(0)", x);
        Checks.due("orders(0) of no doors", new LaneDoors().orders(0), 1);
        Checks.says(22, "NONE if one can't be (one is open, too)");
        Checks.noneAndCleared(x, "orders with the open one", y -> y.orders(16));
        Checks.noneAndCleared(x, "orders with the open one among others", y -> y.orders(17));
        Checks.noneAndCleared(x, "orders(64)", y -> y.orders(64));
        Checks.noneAndCleared(x, "orders(65)", y -> y.orders(65));
        Checks.noneAndCleared(x, "orders(1023)", y -> y.orders(1023));
        Checks.noneAndCleared(x, "orders(1024)", y -> y.orders(1024));
        Checks.noneAndCleared(x, "orders(-1)", y -> y.orders(-1));
        Checks.noneAndCleared(x, "orders of the least int", y -> y.orders(Integer.MIN_VALUE));
        Checks.noneAndCleared(x, "orders of the greatest int", y -> y.orders(Integer.MAX_VALUE));
        Checks.noneAndCleared(ten, "orders(1024) of ten", y -> y.orders(1024));
        Checks.says(22, "The first lies there then (behind 0, NONE: nothing).");
        x.far(0, 0, 1);
        Checks.due("orders of two against each other", x.orders(3), 0);
        Checks.lie("orders of two against each other", x);
        x.far(0, 0, 1);
        Checks.due("orders of a tied one", x.orders(32), 0);
        Checks.lie("orders of a tied one", x);
        x.far(0, 0, 1);
        Checks.due("orders of none", x.orders(0), 1);
        Checks.lie("orders of none", x);
        x.open(2);
        x.far(0, 0, 1);
        Checks.due("orders of a hindered one", x.orders(8), 0);
        Checks.lie("orders of a hindered one", x);
        Checks.noneAndCleared(x, "orders of one that is open now", y -> y.orders(4));
        Checks.says(0, "From what is now; nothing is done");
        Checks.due("what is open", x.about(3), 20);
        Checks.due("acts", x.about(8), 1);
    }

    private static void most() {
        Checks.says(0, "MOST: the most DOORS that can be open at last; of like sets the least as bits.");
        LaneDoors two = Checks.town(against(4, "", ""));
        Checks.still(two, "most(0)", y -> y.most(0), 4);
        Checks.still(two, "most(1)", y -> y.most(1), 15);
        two.off(1);
        Checks.due("most(1) without one", two.most(1), 1 + 4 + 8 + 64);
        LaneDoors ten = Checks.town(ten(""));
        Checks.due("most(0) of ten", ten.most(0), 10);
        Checks.due("most(1) of ten", ten.most(1), 1023);
        Checks.due("most(0) of none", new LaneDoors().most(0), 0);
        Checks.due("most(1) of none", new LaneDoors().most(1), 0);
        // What is open already counts and stays, also if more could be open without it.
        LaneDoors x = Checks.town(TOWN);
        x.open(2);
        Checks.due("most(0) behind c", x.most(0), 3);
        Checks.due("most(1) behind c", x.most(1), 1 + 4 + 16);
        Checks.says(23, "MOST what 0: how many are open then, 1: which, as bits; NONE for another what");
        Checks.none(x, "most(2)", y -> y.most(2));
        for (int bad : Checks.FAR_OUT) {
            Checks.none(x, "most(" + bad + ")", y -> y.most(bad));
        }
    }

    private static void stuck() {
        Checks.says(0, "STUCK: the fewest DOORS that can be open when none CAN be opened any more; of like sets the least as bits.");
        LaneDoors x = Checks.town(TOWN);
        // Behind c d can't be opened: a or b, and c.
        Checks.still(x, "stuck(0)", y -> y.stuck(0), 3);
        Checks.still(x, "stuck(1)", y -> y.stuck(1), 1 + 4 + 16);
        LaneDoors ten = Checks.town(ten(""));
        Checks.due("stuck(1) of ten", ten.stuck(1), 1023);
        Checks.due("stuck(0) of none", new LaneDoors().stuck(0), 0);
        Checks.due("stuck(1) of none", new LaneDoors().stuck(1), 0);
        LaneDoors two = Checks.town(against(2, "", ""));
        Checks.due("stuck(1), the least of four", two.stuck(1), 3);
        // a hinders b, b hinders d, d hinders c: a, b, c are stuck (7), but a, d are fewer (9).
        LaneDoors chain = Checks.town("lane l long 4 wide 1;door a in l at 0 broad 1 left north;door b in l at 0 broad 2 right south;"
                + "door c in l at 2 broad 2 right south;door d in l at 1 broad 2 right north;");
        Checks.due("stuck(1), the fewest and not the least", chain.stuck(1), 9);
        Checks.due("stuck(0), the fewest and not the least", chain.stuck(0), 2);
        LaneDoors now = Checks.town(against(2, " open", ""));
        Checks.due("stuck(1) now already", now.stuck(1), 3);
        Checks.due("stuck(0) now already", now.stuck(0), 2);
        LaneDoors tied = Checks.town(against(2, " tied", " tied"));
        Checks.due("stuck(0), all tied", tied.stuck(0), 0);
        Checks.says(24, "STUCK what 0: how many are open then, 1: which, as bits; NONE for another what");
        Checks.none(x, "stuck(2)", y -> y.stuck(2));
        for (int bad : Checks.FAR_OUT) {
            Checks.none(x, "stuck(" + bad + ")", y -> y.stuck(bad));
        }
    }

    private static void feast() {
        Checks.says(0, "FEAST for n DOORS more: by the least OIL together (times of each as now; no matter the stock); of like ones the least set as bits.");
        LaneDoors x = Checks.town(TOWN);
        Checks.still(x, "feast(2, 0)", y -> y.feast(2, 0), 2 + 4);
        Checks.still(x, "feast(2, 1), of two the least", y -> y.feast(2, 1), 1 + 4);
        x.open(0);
        x.shut(0);
        Checks.due("feast(2, 1), a is dearer now", x.feast(2, 1), 2 + 4);
        Checks.due("feast(3, 0), 12 out of 5", x.feast(3, 0), 12);
        LaneDoors ten = Checks.town(ten("oil 999;"));
        Checks.due("feast(10, 0) without stock", ten.feast(10, 0), 9990);
        Checks.due("feast(10, 1)", ten.feast(10, 1), 1023);
        Checks.due("feast(4, 1), all alike", ten.feast(4, 1), 15);
        Checks.due("feast(1, 1), by the place", Checks.town(ten("oil 9 - place;")).feast(1, 1), 512);
        Checks.says(25, "NONE if so many can't be (n 0 .. 10), or for another what");
        Checks.due("feast(0, 0)", x.feast(0, 0), 0);
        Checks.due("feast(0, 1)", x.feast(0, 1), 0);
        Checks.due("feast(0, 0) of no doors", new LaneDoors().feast(0, 0), 0);
        Checks.none(new LaneDoors(), "feast(1, 0) of no doors", y -> y.feast(1, 0));
        Checks.none(x, "feast(4, 0)", y -> y.feast(4, 0));
        Checks.none(x, "feast(4, 1)", y -> y.feast(4, 1));
        Checks.none(x, "feast(10, 0)", y -> y.feast(10, 0));
        Checks.none(ten, "feast(11, 0)", y -> y.feast(11, 0));
        Checks.none(ten, "feast(11, 1)", y -> y.feast(11, 1));
        Checks.none(x, "feast(1, 2)", y -> y.feast(1, 2));
        Checks.none(x, "feast(0, 2)", y -> y.feast(0, 2));
        for (int bad : Checks.FAR_OUT) {
            Checks.none(x, "feast(" + bad + ", 0)", y -> y.feast(bad, 0));
            Checks.none(x, "feast(1, " + bad + ")", y -> y.feast(1, bad));
        }
        LaneDoors nine = Checks.town(ten(""));
        nine.open(4);
        Checks.none(nine, "feast(10, 0) behind one", y -> y.feast(10, 0));
        Checks.due("feast(9, 1) behind one", nine.feast(9, 1), 1023 - 16);
    }

    private static void never() {
        Checks.says(0, "NEVER with a DOOR: those that can't be open together with it by any order, all others shut (nothing open ahead).");
        LaneDoors x = Checks.town(TOWN);
        Checks.still(x, "never(0)", y -> y.never(0), 2 + 16 + 32);
        Checks.still(x, "never(3), by one order", y -> y.never(3), 16 + 32);
        x.open(2);
        Checks.due("never(3) behind c", x.never(3), 16 + 32);
        Checks.due("never(2), open itself", x.never(2), 16 + 32);
        // A third one that hinders both is no matter, as it is shut.
        LaneDoors third = Checks.town("lane l long 8 wide 1;door a in l at 0 broad 1 left north;door b in l at 2 broad 1 left north;"
                + "door c in l at 0 broad 3 left south open;");
        Checks.due("never(0)", third.never(0), 4);
        Checks.due("never(1)", third.never(1), 0);
        Checks.says(26, "NEVER, as bits (tied and OFF ones: if they can't be opened); NONE if there is none such");
        Checks.due("never(4), tied and open", x.never(4), ALL - 16);
        Checks.due("never(5), tied and shut", x.never(5), ALL - 32);
        x.off(0);
        Checks.due("never(0), off", x.never(0), ALL - 1);
        Checks.due("never(3) with one that is off", x.never(3), 1 + 16 + 32);
        Checks.none(x, "never(6)", y -> y.never(6));
        for (int bad : Checks.FAR_OUT) {
            Checks.none(x, "never(" + bad + ")", y -> y.never(bad));
        }
        Checks.due("never(0), alone", Checks.town("lane l long 1 wide 1;door a in l at 0 broad 1 left north;").never(0), 0);
    }

    private static void turn() {
        Checks.says(0, "TURN of a set of shut DOORS: the fewest HINGES (3 at most, of shut DOORS that are not tied, not OFF) to be turned first so that it has an order; of like ones the least set as bits.");
        LaneDoors x = Checks.town(against(4, "", ""));
        int[] sets = {0x01, 0x81, 0xc3, 0xe7};
        int[] counts = {0, 1, 2, 3};
        for (int i = 0; i < sets.length; i++) {
            int set = sets[i];
            Checks.still(x, "turn(" + set + ", 0)", y -> y.turn(set, 0), counts[i]);
            Checks.still(x, "turn(" + set + ", 1)", y -> y.turn(set, 1), (1 << counts[i]) - 1);
        }
        Checks.says(27, "NONE if 3 are not enough, or one can't be");
        Checks.none(x, "turn of four lanes", y -> y.turn(0xff, 0));
        Checks.none(x, "turn of four lanes", y -> y.turn(0xff, 1));
        Checks.none(x, "turn(256, 0)", y -> y.turn(256, 0));
        Checks.none(x, "turn(1, 2)", y -> y.turn(1, 2));
        Checks.due("turn(0, 0)", x.turn(0, 0), 0);
        Checks.due("turn(0, 1)", x.turn(0, 1), 0);
        Checks.due("turn(0, 0) of no doors", new LaneDoors().turn(0, 0), 0);
        for (int bad : new int[] {-1, 1 << 8, 1 << 9, 1 << 10, 1 << 30, Integer.MIN_VALUE, Integer.MAX_VALUE}) {
            Checks.none(x, "turn(" + bad + ", 0)", y -> y.turn(bad, 0));
        }
        for (int bad : Checks.FAR_OUT) {
            Checks.none(x, "turn(0, " + bad + ")", y -> y.turn(0, bad));
        }
        x.open(0);
        Checks.none(x, "turn of an open one", y -> y.turn(1, 0));
        Checks.none(x, "turn of one that an open one hinders", y -> y.turn(128, 0));
        LaneDoors tied = Checks.town(against(1, " tied", ""));
        Checks.none(tied, "turn with a tied one", y -> y.turn(3, 0));
        Checks.none(tied, "turn of a tied one", y -> y.turn(1, 0));
        LaneDoors off = Checks.town(against(1, "", ""));
        Checks.due("turn(3, 1)", off.turn(3, 1), 1);
        off.off(0);
        Checks.none(off, "turn with one that is off", y -> y.turn(3, 0));
        Checks.due("turn without it", off.turn(2, 0), 0);
        // The first one's other hinge stands in the way, too: the second one is turned.
        LaneDoors second = Checks.town("lane l long 8 wide 3;door n in l at 1 broad 2 left north;door s in l at 0 broad 3 right south;");
        Checks.due("orders of both", second.orders(3), 0);
        Checks.due("turn(3, 1)", second.turn(3, 1), 2);
    }

    private static void ask() {
        Checks.says(0, "ASK for a DOOR: open ones that HINDER it.");
        LaneDoors x = Checks.town("lane l long 8 wide 1;door a in l at 0 broad 4 left north;door b in l at 1 broad 1 left south open;"
                + "door c in l at 2 broad 1 left south tied open;door d in l at 3 broad 1 left south;door e in l at 4 broad 1 left south open;");
        Checks.still(x, "ask(0), a tied one, too", y -> y.ask(0), 2 + 4);
        Checks.still(x, "ask(3), none", y -> y.ask(3), 0);
        Checks.still(x, "ask(1), by a shut one", y -> y.ask(1), 0);
        Checks.says(28, "ASK, as bits; NONE if there is none such");
        Checks.none(x, "ask(5)", y -> y.ask(5));
        for (int bad : Checks.FAR_OUT) {
            Checks.none(x, "ask(" + bad + ")", y -> y.ask(bad));
        }
    }

    private static void vow() {
        Checks.says(0, "VOW: the shut DOOR, not tied, that, taken OFF, makes MOST of the others greatest (as many as can be open then); of like ones the first.");
        LaneDoors x = Checks.town(TOWN);
        // Without a or b still one of both, so a is the first by which nothing is lost.
        Checks.still(x, "vow(0)", y -> y.vow(0), 4);
        Checks.still(x, "vow(1)", y -> y.vow(1), 0);
        LaneDoors last = Checks.town("lane l long 8 wide 3;door c in l at 4 broad 1 left north;door a in l at 0 broad 2 right north;"
                + "door b in l at 1 broad 2 left south;");
        Checks.due("vow(1), not the very first", last.vow(1), 1);
        Checks.due("vow(0), not the very first", last.vow(0), 2);
        LaneDoors one = Checks.town("lane l long 8 wide 3;door c in l at 4 broad 1 left north;");
        Checks.due("vow(0) of one", one.vow(0), 0);
        Checks.due("vow(1) of one", one.vow(1), 0);
        Checks.says(29, "NONE if there is none to be taken OFF, or for another what");
        Checks.none(new LaneDoors(), "vow(0) of no doors", y -> y.vow(0));
        Checks.none(new LaneDoors(), "vow(1) of no doors", y -> y.vow(1));
        one.off(0);
        Checks.none(one, "vow(0), off already", y -> y.vow(0));
        Checks.none(one, "vow(1), off already", y -> y.vow(1));
        LaneDoors tied = Checks.town(against(2, " tied", " open"));
        Checks.none(tied, "vow(0), tied and open ones", y -> y.vow(0));
        Checks.none(tied, "vow(1), tied and open ones", y -> y.vow(1));
        Checks.none(x, "vow(2)", y -> y.vow(2));
        for (int bad : Checks.FAR_OUT) {
            Checks.none(x, "vow(" + bad + ")", y -> y.vow(bad));
        }
    }

    private static void push() {
        Checks.says(30, "What a CART (n 1 .. 8) would PUSH shut, as bits; NONE if it can't go, or one can't be.");
        LaneDoors x = Checks.town("lane l long 8 wide 8;door a in l at 3 broad 2 left north open;door t in l at 6 broad 1 left north tied open;");
        Checks.still(x, "push for 1", y -> y.push(0, 0, 4, 1), 1);
        Checks.still(x, "push for 8", y -> y.push(0, 0, 4, 8), 1);
        Checks.none(x, "push for 0", y -> y.push(0, 0, 4, 0));
        Checks.none(x, "push for 9", y -> y.push(0, 0, 4, 9));
        Checks.none(x, "push past the tied one, too broad", y -> y.push(0, 0, 7, 8));
        Checks.still(x, "push past the tied one", y -> y.push(0, 0, 7, 7), 1);
        Checks.none(x, "push nowhere", y -> y.push(0, 2, 2, 1));
        Checks.none(x, "push to 8", y -> y.push(0, 0, 8, 1));
        Checks.none(x, "push from 8", y -> y.push(0, 8, 7, 1));
        Checks.none(x, "push in 1", y -> y.push(1, 0, 1, 1));
        Checks.still(x, "push from the last place", y -> y.push(0, 7, 6, 7), 0);
        for (int bad : Checks.FAR_OUT) {
            Checks.none(x, "push lane " + bad, y -> y.push(bad, 0, 1, 1));
            Checks.none(x, "push from " + bad, y -> y.push(0, bad, 1, 1));
            Checks.none(x, "push to " + bad, y -> y.push(0, 0, bad, 1));
            Checks.none(x, "push for " + bad, y -> y.push(0, 0, 1, bad));
        }
    }

    private static void gusts() {
        Checks.says(31, "GUSTS (n 0 .. 20), as bits; NONE for another number");
        LaneDoors x = Checks.town(TOWN);
        Checks.still(x, "gusts(0)", y -> y.gusts(0), 16);
        Checks.still(x, "gusts(1)", y -> y.gusts(1), 20);
        Checks.still(x, "gusts(20)", y -> y.gusts(20), 20);
        Checks.none(x, "gusts(21)", y -> y.gusts(21));
        for (int bad : new int[] {-1, 22, 1000, Integer.MIN_VALUE, Integer.MAX_VALUE}) {
            Checks.none(x, "gusts(" + bad + ")", y -> y.gusts(bad));
        }
        Checks.due("gusts(20) of no doors", new LaneDoors().gusts(20), 0);
        // The first wind decides which of two opens: even the first, odd the last.
        String both = "lane l long 9 wide 2;door a in l at 0 broad 2 left north loose;door b in l at 0 broad 2 left south loose;";
        Checks.due("gusts(2), even at first", Checks.town(both + "draw 1;").gusts(2), 1);
        Checks.due("gusts(2), odd at first", Checks.town(both + "draw 2;").gusts(2), 2);
    }

    private static void good() {
        Checks.says(0, "GOOD: of none and of shut DOORS, not tied, not OFF, that by whose HINGE, turned, MOST is greatest; of like ones the first (none first).");
        LaneDoors x = Checks.town(against(2, "", ""));
        Checks.still(x, "good(0)", y -> y.good(0), 3);
        Checks.still(x, "good(1), the first of four", y -> y.good(1), 0);
        x.off(0);
        Checks.due("good(0) without it", x.good(0), 3);
        Checks.due("good(1) without it", x.good(1), 1);
        // The very last one alone helps: the first one's other hinge is in its way, too.
        LaneDoors last = Checks.town("lane l long 8 wide 3;door n in l at 1 broad 2 left north;door k in l at 4 broad 1 left north;"
                + "door s in l at 0 broad 3 right south;");
        Checks.due("good(0) by the last one", last.good(0), 3);
        Checks.due("good(1), the last one", last.good(1), 2);
        LaneDoors tied = Checks.town(against(1, " tied", ""));
        Checks.due("good(0), tied against it", tied.good(0), 1);
        Checks.due("good(1), none first", tied.good(1), -1);
        // Only the second one is shut and free to be turned, and its other hinge is out of the way.
        LaneDoors open = Checks.town("lane l long 8 wide 3;door n in l at 0 broad 2 right north open;door s in l at 1 broad 2 left south;");
        Checks.due("good(0) behind an open one", open.good(0), 1);
        Checks.due("good(1) behind an open one", open.good(1), -1);
        Checks.says(32, "GOOD what 0: how many are open then, 1: the DOOR (NONE: none); NONE for another what");
        LaneDoors fine = Checks.town(ten(""));
        Checks.due("good(0) where all can", fine.good(0), 10);
        Checks.due("good(1) where all can", fine.good(1), -1);
        Checks.due("good(0) of no doors", new LaneDoors().good(0), 0);
        Checks.due("good(1) of no doors", new LaneDoors().good(1), -1);
        Checks.none(fine, "good(2)", y -> y.good(2));
        for (int bad : Checks.FAR_OUT) {
            Checks.none(fine, "good(" + bad + ")", y -> y.good(bad));
        }
    }
}
