/** Terms 2 and promises 6 to 21, sentence by sentence: the edges of what doors are and of what is done with them. */
public final class ActEdgesTest {
    // a and b hinder each other, c hinders d, e is tied and open, f is tied and shut.
    private static final String TOWN = "lane main long 8 wide 3;lane side long 4 wide 2;"
            + "door a in main at 0 broad 2 left north;door b in main at 0 broad 2 right south;"
            + "door c in main at 3 broad 1 left south loose;door d in main at 3 broad 3 right north;"
            + "door e in side at 1 broad 3 left north tied open;door f in side at 0 broad 1 left south tied;"
            + "oil broad * 2;stock 9;draw 2;";
    private static final int DOORS = 6;

    public static void main(String[] args) {
        reach();
        hindersTerm();
        canTerm();
        freeTerm();
        oilTerm();
        actTerms();
        windTerm();
        undoTerm();
        door();
        can();
        hinders();
        free();
        pairs();
        oil();
        sum();
        open();
        shut();
        hinge();
        off();
        cart();
        day();
        wind();
        undoAndRedo();
        Checks.finish();
    }

    private static LaneDoors one(String lane, String door) {
        return Checks.town("lane l " + lane + ";door a in l at " + door + ";");
    }

    private static void reach() {
        Checks.says(0, "Its HINGE is at the first of these (left) or the last one (right)");
        Checks.due("left", one("long 9 wide 3", "2 broad 4 left north").door(0, 3), 2);
        Checks.due("right", one("long 9 wide 3", "2 broad 4 right north").door(0, 3), 5);
        Checks.due("left of one place", one("long 9 wide 3", "2 broad 1 left north").door(0, 3), 2);
        Checks.due("right of one place", one("long 9 wide 3", "2 broad 1 right north").door(0, 3), 2);
        Checks.says(0, "as far as it is broad, but no farther than the LANE is wide");
        for (int broad = 1; broad <= 4; broad++) {
            for (int wide = 1; wide <= 8; wide++) {
                LaneDoors x = one("long 9 wide " + wide, "2 broad " + broad + " left north open");
                Checks.due("free where " + broad + " stands in " + wide, x.free(0, 2), Math.max(0, wide - broad));
            }
        }
    }

    private static LaneDoors two(int wide, String first, String second) {
        return Checks.town("lane l long 9 wide " + wide + ";lane m long 9 wide " + wide + ";door a in " + first
                + ";door b in " + second + ";");
    }

    private static void hindersTerm() {
        Checks.says(0, "A DOOR that would be open HINDERS another one of its LANE on the other side, if its HINGE is at a place of that one, and both reach farther together than the LANE is wide.");
        for (int wide = 1; wide <= 8; wide++) {
            for (int broad = 1; broad <= 4; broad++) {
                LaneDoors x = two(wide, "l at 0 broad " + broad + " left north", "l at 0 broad 3 left south");
                int together = Math.min(wide, broad) + Math.min(wide, 3);
                Checks.due(broad + " and 3 in " + wide, x.hinders(0, 1), together > wide ? 1 : 0);
            }
        }
        Checks.due("on the same side", two(1, "l at 0 broad 2 right north", "l at 2 broad 2 left north").hinders(0, 1), 0);
        Checks.due("in another lane", two(1, "l at 0 broad 2 left north", "m at 0 broad 2 left south").hinders(0, 1), 0);
        for (int place = 0; place <= 7; place++) {
            LaneDoors x = two(1, "l at " + place + " broad 1 left north", "l at 3 broad 3 left south");
            Checks.due("a hinge at " + place + " and 3 .. 5", x.hinders(0, 1), place >= 3 && place <= 5 ? 1 : 0);
            Checks.due("the other way", x.hinders(1, 0), place == 3 ? 1 : 0);
        }
        Checks.due("a hinge at the last place", two(1, "l at 0 broad 4 right north", "l at 3 broad 1 left south").hinders(0, 1), 1);
        Checks.due("the hinge is elsewhere", two(1, "l at 0 broad 4 left north", "l at 3 broad 1 left south").hinders(0, 1), 0);
    }

    private static void canTerm() {
        Checks.says(0, "A DOOR CAN be opened, if it is shut, not tied, not OFF, and no open one HINDERS it.");
        Checks.due("a shut one", one("long 9 wide 3", "0 broad 1 left north").can(0), 1);
        Checks.due("an open one", one("long 9 wide 3", "0 broad 1 left north open").can(0), 0);
        Checks.due("a tied one", one("long 9 wide 3", "0 broad 1 left north tied").can(0), 0);
        Checks.due("a tied open one", one("long 9 wide 3", "0 broad 1 left north tied open").can(0), 0);
        Checks.due("a loose one", one("long 9 wide 3", "0 broad 1 left north loose").can(0), 1);
        LaneDoors x = two(2, "l at 0 broad 1 left north", "l at 0 broad 2 left south");
        x.open(0);
        Checks.due("one that an open one hinders", x.can(1), 0);
        x.shut(0);
        Checks.due("one that a shut one would hinder", x.can(1), 1);
        x.off(1);
        Checks.due("one that is off", x.can(1), 0);
        // That it would hinder an open one is no matter.
        LaneDoors later = two(2, "l at 0 broad 2 left north", "l at 0 broad 4 right south");
        Checks.due("a hinders b", later.hinders(0, 1), 1);
        Checks.due("b hinders a not", later.hinders(1, 0), 0);
        later.open(1);
        Checks.due("a behind b", later.can(0), 1);
    }

    private static void freeTerm() {
        Checks.says(0, "FREE at a place of a LANE is its width less what open DOORS with HINGES there reach together (0 at least).");
        LaneDoors x = two(3, "l at 0 broad 1 left north", "l at 0 broad 2 left south");
        Checks.due("none is open", x.free(0, 0), 3);
        x.open(0);
        Checks.due("one is open", x.free(0, 0), 2);
        x.open(1);
        Checks.due("both are open", x.free(0, 0), 0);
        Checks.due("where one has no hinge", x.free(0, 1), 3);
        LaneDoors over = two(3, "l at 0 broad 3 left north open", "l at 0 broad 2 left south open");
        Checks.due("both together reach too far", over.free(0, 0), 0);
        // The first place of a door with its hinge at the right is free.
        LaneDoors right = one("long 9 wide 3", "0 broad 3 right north open");
        Checks.due("the first place", right.free(0, 0), 3);
        Checks.due("the last place", right.free(0, 2), 0);
    }

    /** The oil of a door with breadth 2, at place 3, opened as often and on such a day. */
    private static int oil(String e, int times, int day) {
        LaneDoors x = Checks.town("lane l long 9 wide 2;door a in l at 3 broad 2 right north;" + e);
        for (int i = 0; i < times; i++) {
            x.open(0);
            x.shut(0);
        }
        for (int i = 0; i < day; i++) {
            x.day();
        }
        return x.oil(0);
    }

    private static void oilTerm() {
        Checks.says(0, "what comes of oil (0, if it is not told) by its breadth, times (how often it was opened), the day (0 at first), the place told");
        Checks.due("not told", oil("", 0, 5), 0);
        Checks.due("breadth", oil("oil broad;", 0, 0), 2);
        Checks.due("times at first", oil("oil times;", 0, 0), 0);
        Checks.due("the day at first", oil("oil day;", 0, 0), 0);
        Checks.due("the day", oil("oil day;", 0, 3), 3);
        Checks.due("times behind 4", oil("oil times;stock 9;", 4, 0), 4);
        Checks.due("told open is no time", one("long 9 wide 2", "0 broad 1 left north open").door(0, 9), 0);
        Checks.due("the place told, not the hinge's", oil("oil place;", 0, 0), 3);
        Checks.says(0, "0 at least, 999 at most");
        Checks.due("0 - 1", oil("oil 0 - 1;", 0, 0), 0);
        Checks.due("0", oil("oil 0;", 0, 0), 0);
        Checks.due("1", oil("oil 1;", 0, 0), 1);
        Checks.due("998", oil("oil 998;", 0, 0), 998);
        Checks.due("999", oil("oil 999;", 0, 0), 999);
        Checks.due("1000", oil("oil 1000;", 0, 0), 999);
        Checks.due("9999 * 9999", oil("oil 9999 * 9999;", 0, 0), 999);
        Checks.says(0, "ints, wrapping");
        // 65536 * 32768 = 2 to the 31: the least int.
        String least = "(256*256*(256*128))";
        Checks.due("the least int", oil("oil " + least + " < 0;", 0, 0), 1);
        Checks.due("one less is the greatest int", oil("oil " + least + " - 1 > 9999 * 9999;", 0, 0), 1);
        Checks.due("one less, the most oil", oil("oil " + least + " - 1;", 0, 0), 999);
        Checks.due("its negative is itself", oil("oil 0 - " + least + " = " + least + ";", 0, 0), 1);
        Checks.due("doubled", oil("oil " + least + " * 2 + 5;", 0, 0), 5);
        Checks.due("by -1", oil("oil " + least + " / (0 - 1) = " + least + ";", 0, 0), 1);
        Checks.due("rest by -1", oil("oil " + least + " % (0 - 1) + 5;", 0, 0), 5);
        Checks.says(0, "/ cut, % its rest, both by 0: 0");
        Checks.due("7 / 2", oil("oil 7 / 2;", 0, 0), 3);
        Checks.due("-7 / 2", oil("oil (0 - 7) / 2 + 10;", 0, 0), 7);
        Checks.due("7 / -2", oil("oil 7 / (0 - 2) + 10;", 0, 0), 7);
        Checks.due("-7 % 2", oil("oil (0 - 7) % 2 + 10;", 0, 0), 9);
        Checks.due("7 % -2", oil("oil 7 % (0 - 2) + 10;", 0, 0), 11);
        Checks.due("7 / 0", oil("oil 7 / 0 + 4;", 0, 0), 4);
        Checks.due("7 % 0", oil("oil 7 % 0 + 4;", 0, 0), 4);
        Checks.due("0 / 0", oil("oil 0 / 0 + 4;", 0, 0), 4);
        Checks.due("0 % 0", oil("oil 0 % 0 + 4;", 0, 0), 4);
        Checks.due("by times, at first 0", oil("oil 7 / times + 7 % day;", 0, 0), 0);
        Checks.says(0, "relations, and, or, not are 1 or 0, of what is not 0");
        String[] ones = {"1 < 2", "0 - 1 < 0", "2 > 1", "3 = 3", "5 and 6", "5 or 0", "0 or 5", "not 0", "0 - 1 and 7",
            "0 - 1 or 0", "not not 7", "not 1 > 2", "1 or 0 and 0", "not 0 and 7",
            "(1 < 2) = (2 > 1)"};
        String[] noughts = {"2 < 2", "2 < 1", "2 > 2", "2 > 3", "3 = 4", "5 and 0", "0 and 5", "0 or 0", "not 7",
            "not (0 - 7)", "not not 0", "(1 or 0) and 0", "not 1 or 0", "0 - 1 > 0"};
        for (String e : ones) {
            Checks.due(e, oil("oil " + e + ";", 0, 0), 1);
        }
        for (String e : noughts) {
            Checks.due(e, oil("oil " + e + ";", 0, 0), 0);
        }
    }

    private static void actTerms() {
        Checks.says(0, "a DOOR that CAN is opened, for its OIL out of the stock; an open one, not tied, is shut; the HINGE of a shut one, not tied, not OFF, is turned (left to right, or back); a shut one, not tied, is taken OFF (it is never open again); a CART goes along a LANE; a day goes by");
        LaneDoors x = Checks.town(TOWN);
        Checks.act(x, "open(0)", y -> y.open(0), 5);
        Checks.act(x, "shut(0)", y -> y.shut(0) ? 1 : 0, 1);
        Checks.due("times are not taken back by shutting", x.door(0, 9), 1);
        Checks.due("nor is the stock", x.about(5), 5);
        Checks.act(x, "hinge(0)", y -> y.hinge(0), 1);
        Checks.act(x, "hinge(0)", y -> y.hinge(0), 0);
        Checks.act(x, "off(0)", y -> y.off(0) ? 1 : 0, 1);
        Checks.act(x, "cart(0, 0, 7, 3)", y -> y.cart(0, 0, 7, 3), 0);
        Checks.act(x, "day()", LaneDoors::day, 1);
        Checks.act(x, "wind()", LaneDoors::wind, 4);
        Checks.none(x, "an off one is opened", y -> y.open(0));
        Checks.due("an off one is not blown open", Checks.town("lane l long 2 wide 2;door a in l at 0 broad 1 left north loose;").wind(), 1);
        LaneDoors gone = Checks.town("lane l long 2 wide 2;door a in l at 0 broad 1 left north loose;");
        gone.off(0);
        Checks.due("wind()", gone.wind(), 0);
        Checks.due("gusts(20)", gone.gusts(20), 0);
    }

    private static void windTerm() {
        Checks.says(0, "the SEED (draw, at first) becomes its 137-fold and 71 more, modulo 1,000");
        for (int draw : new int[] {0, 1, 2, 7, 500, 998, 999}) {
            LaneDoors x = Checks.town("draw " + draw + ";");
            Checks.due("the seed at first", x.about(7), draw);
            int seed = draw;
            for (int i = 0; i < 30; i++) {
                x.wind();
                seed = (seed * 137 + 71) % 1000;
                Checks.due("the seed", x.about(7), seed);
            }
        }
        Checks.says(0, "all loose DOORS that CAN be opened are, one by one, from the first on, if it is even, else from the last on (no OIL; times go up)");
        String both = "lane l long 9 wide 2;door a in l at 0 broad 2 left north loose;door b in l at 0 broad 2 left south loose;"
                + "door c in l at 5 broad 1 left north loose;door d in l at 6 broad 1 left north;oil 5;stock 3;";
        // 1 becomes 208, 2 becomes 345.
        LaneDoors even = Checks.town(both + "draw 1;");
        Checks.due("from the first on", even.wind(), 1 + 4);
        LaneDoors odd = Checks.town(both + "draw 2;");
        Checks.due("from the last on", odd.wind(), 2 + 4);
        Checks.due("no oil", odd.about(5), 3);
        Checks.due("times of b", odd.door(1, 9), 1);
        Checks.due("times of a", odd.door(0, 9), 0);
        Checks.due("times of d, not loose", odd.door(3, 9), 0);
        Checks.due("those that are open already", odd.wind(), 0);
        Checks.due("times of b still", odd.door(1, 9), 1);
        LaneDoors tied = Checks.town("lane l long 9 wide 2;door a in l at 0 broad 2 left north loose tied;");
        Checks.due("a loose tied one", tied.wind(), 0);
    }

    private static void undoTerm() {
        Checks.says(0, "40 at most are kept, the oldest go");
        LaneDoors x = new LaneDoors();
        for (int i = 1; i <= 39; i++) {
            x.day();
        }
        Checks.due("acts behind 39", x.about(8), 39);
        x.day();
        Checks.due("acts behind 40", x.about(8), 40);
        x.day();
        Checks.due("acts behind 41", x.about(8), 40);
        for (int i = 0; i < 40; i++) {
            Checks.due("undo()", x.undo(), true);
        }
        Checks.refused(x, "undo() of the oldest", LaneDoors::undo);
        Checks.due("the day behind the oldest", x.about(6), 1);
        Checks.due("to be redone", x.about(9), 40);
        for (int i = 0; i < 40; i++) {
            Checks.due("redo()", x.redo(), true);
        }
        Checks.due("the day", x.about(6), 41);
        Checks.refused(x, "redo() of none", LaneDoors::redo);
        // Far around the ring.
        for (int i = 0; i < 130; i++) {
            x.day();
        }
        for (int i = 0; i < 17; i++) {
            x.undo();
        }
        Checks.due("the day", x.about(6), 154);
        Checks.due("acts", x.about(8), 23);
        for (int i = 0; i < 20; i++) {
            x.wind();
        }
        Checks.due("acts behind 20 others", x.about(8), 40);
        for (int i = 0; i < 40; i++) {
            Checks.due("undo()", x.undo(), true);
        }
        Checks.due("the day at last", x.about(6), 134);
        Checks.says(0, "UNDO takes back the latest ACT that was not, REDO does that again which was taken back last (till another ACT)");
        LaneDoors y = new LaneDoors();
        y.day();
        y.wind();
        y.undo();
        y.undo();
        Checks.due("redo()", y.redo(), true);
        Checks.due("what was taken back last", 1000 * y.about(6) + y.about(7), 1000);
        Checks.due("redo()", y.redo(), true);
        Checks.due("and what before", 1000 * y.about(6) + y.about(7), 1071);
        y.undo();
        y.day();
        Checks.refused(y, "redo() behind another act", LaneDoors::redo);
        Checks.due("undo()", y.undo(), true);
        Checks.due("undo()", y.undo(), true);
        Checks.refused(y, "undo() of none", LaneDoors::undo);
        // What is refused, asked or heard is no act: what was taken back can still be done again.
        y.open(0);
        y.later(1);
        y.orders(0);
        y.image(0);
        y.end(0);
        Checks.due("redo()", y.redo(), true);
    }

    private static void door() {
        Checks.says(6, "5: 1 if open, 6: if OFF, 7: if loose, 8: if tied, else 0, 9: times");
        LaneDoors x = Checks.town(TOWN);
        int[][] due = {{0, 0, 2, 0, 0, 0, 0, 0, 0, 0}, {0, 0, 2, 1, 1, 0, 0, 0, 0, 0}, {0, 3, 1, 3, 1, 0, 0, 1, 0, 0},
            {0, 3, 3, 5, 0, 0, 0, 0, 0, 0}, {1, 1, 3, 1, 0, 1, 0, 0, 1, 0}, {1, 0, 1, 0, 1, 0, 0, 0, 1, 0}};
        for (int d = 0; d < DOORS; d++) {
            for (int what = 0; what <= 9; what++) {
                Checks.due("door(" + d + ", " + what + ")", x.door(d, what), due[d][what]);
            }
        }
        x.wind();
        x.off(3);
        x.hinge(0);
        Checks.due("open now", x.door(2, 5), 1);
        Checks.due("times now", x.door(2, 9), 1);
        Checks.due("off now", x.door(3, 6), 1);
        Checks.due("the hinge's place now", x.door(0, 3), 1);
        Checks.says(6, "-2 if there is none such, or for another what");
        for (int bad : Checks.FAR_OUT) {
            Checks.still(x, "door(" + bad + ", 0)", y -> y.door(bad, 0), -2);
            Checks.still(x, "door(0, " + bad + ")", y -> y.door(0, bad), -2);
        }
        Checks.due("door(6, 9)", x.door(6, 9), -2);
        Checks.due("door(5, 10)", x.door(5, 10), -2);
        Checks.due("door(9, 0), in a town of fewer", x.door(9, 0), -2);
    }

    private static void can() {
        Checks.says(7, "1 if it CAN be opened, else 0; NONE if there is none such");
        LaneDoors x = Checks.town(TOWN);
        Checks.due("can(0)", x.can(0), 1);
        Checks.due("can(4)", x.can(4), 0);
        Checks.due("can(5)", x.can(5), 0);
        Checks.none(x, "can(6)", y -> y.can(6));
        for (int bad : Checks.FAR_OUT) {
            Checks.none(x, "can(" + bad + ")", y -> y.can(bad));
        }
        // Too little stock is no matter: it CAN all the same.
        Checks.due("can(0) without stock", Checks.town("lane l long 2 wide 2;door a in l at 0 broad 1 left north;oil 5;").can(0), 1);
    }

    private static void hinders() {
        Checks.says(8, "NONE if one can't be (of itself: 0)");
        LaneDoors x = Checks.town(TOWN);
        for (int d = 0; d < DOORS; d++) {
            Checks.due("hinders itself", x.hinders(d, d), 0);
        }
        Checks.none(x, "hinders(6, 6)", y -> y.hinders(6, 6));
        Checks.none(x, "hinders(0, 6)", y -> y.hinders(0, 6));
        Checks.none(x, "hinders(6, 0)", y -> y.hinders(6, 0));
        for (int bad : Checks.FAR_OUT) {
            Checks.none(x, "hinders(0, " + bad + ")", y -> y.hinders(0, bad));
            Checks.none(x, "hinders(" + bad + ", 0)", y -> y.hinders(bad, 0));
            Checks.none(x, "hinders(" + bad + ", " + bad + ")", y -> y.hinders(bad, bad));
        }
        Checks.due("a broad one across itself", one("long 9 wide 1", "0 broad 4 left north").hinders(0, 0), 0);
    }

    private static void free() {
        Checks.says(9, "NONE if there is no such place");
        LaneDoors x = Checks.town(TOWN);
        Checks.due("the first place", x.free(0, 0), 3);
        Checks.due("the last place", x.free(0, 7), 3);
        Checks.none(x, "free(0, 8)", y -> y.free(0, 8));
        Checks.due("the last place of the other one", x.free(1, 3), 2);
        Checks.none(x, "free(1, 4)", y -> y.free(1, 4));
        Checks.none(x, "free(2, 0)", y -> y.free(2, 0));
        for (int bad : Checks.FAR_OUT) {
            Checks.none(x, "free(0, " + bad + ")", y -> y.free(0, bad));
            Checks.none(x, "free(" + bad + ", 0)", y -> y.free(bad, 0));
        }
    }

    private static void pairs() {
        Checks.says(10, "how many twos; NONE for another what");
        LaneDoors x = Checks.town(TOWN);
        // a and b both, c and d one, e and f (in 2, f at the first place) none.
        Checks.due("pairs(0)", x.pairs(0), 2);
        Checks.due("pairs(1)", x.pairs(1), 1);
        Checks.none(x, "pairs(2)", y -> y.pairs(2));
        for (int bad : Checks.FAR_OUT) {
            Checks.none(x, "pairs(" + bad + ")", y -> y.pairs(bad));
        }
        Checks.due("pairs(0) of none", new LaneDoors().pairs(0), 0);
        Checks.due("pairs(1) of none", new LaneDoors().pairs(1), 0);
        // The last of ten doors counts, too.
        StringBuilder ten = new StringBuilder("lane l long 16 wide 1;");
        for (int i = 0; i < 10; i++) {
            ten.append("door ").append((char) ('a' + i)).append(" in l at ").append(i / 2).append(" broad 1 left ")
                    .append(i % 2 == 0 ? "north;" : "south;");
        }
        Checks.due("pairs(1) of ten", Checks.town(ten.toString()).pairs(1), 5);
    }

    private static void oil() {
        Checks.says(11, "OIL of a DOOR now; NONE if there is none such");
        LaneDoors x = Checks.town(TOWN);
        Checks.due("oil(5), the last", x.oil(5), 2);
        Checks.due("oil(4), an open one", x.oil(4), 6);
        Checks.none(x, "oil(6)", y -> y.oil(6));
        for (int bad : Checks.FAR_OUT) {
            Checks.none(x, "oil(" + bad + ")", y -> y.oil(bad));
        }
    }

    private static void sum() {
        Checks.says(12, "Of all DOORS what 0: times together, 1: how many CAN be opened now, 2: OIL of these together; NONE for another what");
        LaneDoors x = Checks.town(TOWN);
        Checks.due("sum(0)", x.sum(0), 0);
        Checks.due("sum(1)", x.sum(1), 4);
        Checks.due("sum(2)", x.sum(2), 4 + 4 + 2 + 6);
        Checks.none(x, "sum(3)", y -> y.sum(3));
        for (int bad : Checks.FAR_OUT) {
            Checks.none(x, "sum(" + bad + ")", y -> y.sum(bad));
        }
        for (int what = 0; what <= 2; what++) {
            Checks.due("sum(" + what + ") of none", new LaneDoors().sum(what), 0);
        }
        x.open(2);
        x.shut(2);
        x.open(2);
        Checks.due("sum(0) behind two", x.sum(0), 2);
        Checks.due("sum(1) behind c", x.sum(1), 2);
        StringBuilder ten = new StringBuilder("lane l long 16 wide 1;oil 9999;");
        for (int i = 0; i < 10; i++) {
            ten.append("door ").append((char) ('a' + i)).append(" in l at ").append(i).append(" broad 1 left north;");
        }
        Checks.due("sum(2) of ten dear ones", Checks.town(ten.toString()).sum(2), 9990);
    }

    private static void open() {
        Checks.says(13, "NONE, doing nothing, if it CAN not, or the stock is not enough");
        LaneDoors x = Checks.town(TOWN);
        Checks.act(x, "open(0)", y -> y.open(0), 5);
        Checks.none(x, "open(0), open already", y -> y.open(0));
        Checks.none(x, "open(1), hindered", y -> y.open(1));
        Checks.none(x, "open(3), 6 of 5", y -> y.open(3));
        Checks.none(x, "open(4), tied and open", y -> y.open(4));
        Checks.none(x, "open(5), tied and shut", y -> y.open(5));
        Checks.none(x, "open(6)", y -> y.open(6));
        for (int bad : Checks.FAR_OUT) {
            Checks.none(x, "open(" + bad + ")", y -> y.open(bad));
        }
        x.off(2);
        Checks.none(x, "open(2), off", y -> y.open(2));
        for (int stock = 0; stock <= 8; stock++) {
            LaneDoors y = Checks.town("lane l long 9 wide 3;door a in l at 0 broad 1 left north;oil 7;stock " + stock + ";");
            if (stock < 7) {
                Checks.none(y, "open(0) of 7 out of " + stock, z -> z.open(0));
            } else {
                Checks.act(y, "open(0) of 7 out of " + stock, z -> z.open(0), stock - 7);
            }
        }
        Checks.act(Checks.town("lane l long 9 wide 3;door a in l at 0 broad 1 left north;"), "open(0) for nothing", y -> y.open(0), 0);
        Checks.act(Checks.town("lane l long 9 wide 3;door a in l at 0 broad 1 left north;oil 9999;stock 999;"), "open(0) for all", y -> y.open(0), 0);
    }

    private static void shut() {
        Checks.says(14, "It is shut: true; false, doing nothing, if it can't be");
        LaneDoors x = Checks.town(TOWN);
        Checks.refused(x, "shut(0), shut already", y -> y.shut(0));
        Checks.refused(x, "shut(4), tied and open", y -> y.shut(4));
        Checks.refused(x, "shut(5), tied and shut", y -> y.shut(5));
        Checks.refused(x, "shut(6)", y -> y.shut(6));
        for (int bad : Checks.FAR_OUT) {
            Checks.refused(x, "shut(" + bad + ")", y -> y.shut(bad));
        }
        x.off(0);
        Checks.refused(x, "shut(0), off", y -> y.shut(0));
        x.open(3);
        Checks.act(x, "shut(3)", y -> y.shut(3) ? 1 : 0, 1);
        Checks.refused(x, "shut(3) again", y -> y.shut(3));
        LaneDoors told = one("long 3 wide 3", "0 broad 1 left north loose open");
        Checks.act(told, "shut of one that was told open", y -> y.shut(0) ? 1 : 0, 1);
    }

    private static void hinge() {
        Checks.says(15, "the HINGE's place then; NONE, doing nothing, if it can't be");
        LaneDoors x = Checks.town(TOWN);
        Checks.act(x, "hinge(0)", y -> y.hinge(0), 1);
        Checks.act(x, "hinge(1)", y -> y.hinge(1), 0);
        Checks.act(x, "hinge(2) of one place", y -> y.hinge(2), 3);
        Checks.act(x, "hinge(3)", y -> y.hinge(3), 3);
        Checks.none(x, "hinge(4), tied and open", y -> y.hinge(4));
        Checks.none(x, "hinge(5), tied", y -> y.hinge(5));
        Checks.none(x, "hinge(6)", y -> y.hinge(6));
        for (int bad : Checks.FAR_OUT) {
            Checks.none(x, "hinge(" + bad + ")", y -> y.hinge(bad));
        }
        x.open(0);
        Checks.none(x, "hinge(0), open", y -> y.hinge(0));
        x.off(3);
        Checks.none(x, "hinge(3), off", y -> y.hinge(3));
    }

    private static void off() {
        Checks.says(16, "It is taken OFF: true; false, doing nothing, if it can't be (OFF already, too)");
        LaneDoors x = Checks.town(TOWN);
        Checks.act(x, "off(0)", y -> y.off(0) ? 1 : 0, 1);
        Checks.refused(x, "off(0) again", y -> y.off(0));
        x.open(1);
        Checks.refused(x, "off(1), open", y -> y.off(1));
        Checks.refused(x, "off(4), tied and open", y -> y.off(4));
        Checks.refused(x, "off(5), tied", y -> y.off(5));
        Checks.refused(x, "off(6)", y -> y.off(6));
        for (int bad : Checks.FAR_OUT) {
            Checks.refused(x, "off(" + bad + ")", y -> y.off(bad));
        }
        x.shut(1);
        Checks.act(x, "off(1), hindered by none", y -> y.off(1) ? 1 : 0, 1);
        // One that can't be opened for an open one's sake can be taken off.
        LaneDoors hindered = two(1, "l at 0 broad 1 left north open", "l at 0 broad 1 left south");
        Checks.act(hindered, "off(1), hindered", y -> y.off(1) ? 1 : 0, 1);
    }

    private static void cart() {
        Checks.says(17, "A CART (n 1 .. 8) goes along a LANE (from and to are unlike): what it PUSHES shut, as bits; NONE, doing nothing, if it can't, or one can't be.");
        String town = "lane l long 8 wide 8;door a in l at 3 broad 2 left north open;door t in l at 6 broad 1 left north tied open;lane m long 3 wide 2;";
        LaneDoors x = Checks.town(town);
        Checks.none(x, "cart(0, 3, 3, 1)", y -> y.cart(0, 3, 3, 1));
        Checks.none(x, "cart for 0", y -> y.cart(0, 0, 1, 0));
        Checks.none(x, "cart for 9", y -> y.cart(0, 0, 1, 9));
        Checks.none(x, "cart to 8", y -> y.cart(0, 0, 8, 1));
        Checks.none(x, "cart from 8", y -> y.cart(0, 8, 0, 1));
        Checks.none(x, "cart in 2", y -> y.cart(2, 0, 1, 1));
        Checks.none(x, "cart beyond m", y -> y.cart(1, 0, 3, 1));
        Checks.none(x, "cart past the tied one, too broad", y -> y.cart(0, 0, 7, 8));
        Checks.none(x, "cart back past a, which does not yield", y -> y.cart(0, 5, 2, 7));
        Checks.none(x, "cart from a's place", y -> y.cart(0, 3, 4, 7));
        Checks.none(x, "cart too broad for m", y -> y.cart(1, 0, 2, 3));
        for (int bad : Checks.FAR_OUT) {
            Checks.none(x, "cart lane " + bad, y -> y.cart(bad, 0, 1, 1));
            Checks.none(x, "cart from " + bad, y -> y.cart(0, bad, 1, 1));
            Checks.none(x, "cart to " + bad, y -> y.cart(0, 0, bad, 1));
            Checks.none(x, "cart for " + bad, y -> y.cart(0, 0, 1, bad));
        }
        Checks.act(x, "cart for 1", y -> y.cart(0, 0, 1, 1), 0);
        Checks.act(x, "cart for 8, to a's place", y -> y.cart(0, 0, 3, 8), 1);
        Checks.due("what is open", x.about(3), 2);
        Checks.act(x, "cart for 8, that pushes nothing", y -> y.cart(0, 5, 0, 8), 0);
        Checks.act(x, "cart for 7, past the tied one", y -> y.cart(0, 0, 7, 7), 0);
        Checks.act(x, "cart along m", y -> y.cart(1, 2, 0, 2), 0);
        Checks.says(0, "PUSHES shut each open DOOR, not tied, with its HINGE at a place that it comes to (not at the first one), if that is its left one and the CART goes to greater places, or its right one and it goes to less ones; it can go, if FREE is n at least at all these places then, the first one, too.");
        for (int from = 0; from < 8; from++) {
            for (int to = 0; to < 8; to++) {
                pushOne(from, to, "left");
                pushOne(from, to, "right");
            }
        }
        // A door of one place has its hinge at the left or at the right as told, or as turned.
        LaneDoors small = one("long 8 wide 1", "3 broad 1 left north");
        small.open(0);
        Checks.due("a left one, to greater places", small.push(0, 0, 7, 1), 1);
        Checks.due("a left one, to less ones", small.push(0, 7, 0, 1), -1);
        small.shut(0);
        small.hinge(0);
        small.open(0);
        Checks.due("a right one, to greater places", small.push(0, 0, 7, 1), -1);
        Checks.due("a right one, to less ones", small.push(0, 7, 0, 1), 1);
        // Several at one place, and one that comes back into the way of the other sort.
        LaneDoors both = Checks.town("lane l long 8 wide 2;door a in l at 3 broad 1 left north open;door b in l at 3 broad 2 left south open;"
                + "door c in l at 4 broad 2 right north open;");
        Checks.due("two at one place", both.cart(0, 0, 4, 2), 3);
        Checks.due("the third one", both.cart(0, 7, 5, 2), 4);
    }

    /** A cart from one place to another in a lane with a door at 3 .. 4, in a lane that it fills up. */
    private static void pushOne(int from, int to, String side) {
        LaneDoors x = one("long 8 wide 2", "3 broad 2 " + side + " north open");
        int hinge = side.equals("left") ? 3 : 4;
        boolean within = hinge >= Math.min(from, to) && hinge <= Math.max(from, to);
        boolean yields = within && hinge != from && (side.equals("left") ? to > from : to < from);
        int due = from == to || within && !yields ? -1 : yields ? 1 : 0;
        Checks.still(x, side + " push(0, " + from + ", " + to + ", 1)", y -> y.push(0, from, to, 1), due);
        Checks.due(side + " cart(0, " + from + ", " + to + ", 1)", x.cart(0, from, to, 1), due);
        Checks.due("open then", x.about(3), due == 1 ? 0 : 1);
    }

    private static void day() {
        Checks.says(18, "A day goes by: the day; NONE, doing nothing, if it would be above 9,999.");
        LaneDoors x = new LaneDoors();
        Checks.act(x, "day()", LaneDoors::day, 1);
        for (int i = 2; i <= 9998; i++) {
            x.day();
        }
        Checks.due("day()", x.day(), 9999);
        Checks.none(x, "day() behind the last", LaneDoors::day);
        x.undo();
        Checks.due("day() once more", x.day(), 9999);
    }

    private static void wind() {
        Checks.says(19, "WIND: DOORS that it opened, as bits.");
        LaneDoors x = Checks.town(TOWN);
        Checks.act(x, "wind()", LaneDoors::wind, 4);
        Checks.act(x, "wind() that opens nothing", LaneDoors::wind, 0);
        Checks.act(new LaneDoors(), "wind() over no doors", LaneDoors::wind, 0);
        StringBuilder ten = new StringBuilder("lane l long 16 wide 1;");
        for (int i = 0; i < 10; i++) {
            ten.append("door ").append((char) ('a' + i)).append(" in l at ").append(i).append(" broad 1 left north loose;");
        }
        Checks.act(Checks.town(ten.toString()), "wind() that opens ten", LaneDoors::wind, 1023);
    }

    private static void undoAndRedo() {
        Checks.says(20, "UNDO: true; false if there is none");
        LaneDoors x = Checks.town(TOWN);
        Checks.refused(x, "undo() of none", LaneDoors::undo);
        x.day();
        Checks.due("undo()", x.undo(), true);
        Checks.refused(x, "undo() of none", LaneDoors::undo);
        Checks.says(21, "REDO: true; false if there is none");
        Checks.due("redo()", x.redo(), true);
        Checks.refused(x, "redo() of none", LaneDoors::redo);
        x.undo();
        x.wind();
        Checks.refused(x, "redo() behind another act", LaneDoors::redo);
        x.undo();
        Checks.due("about(9)", x.about(9), 1);
        x.image(0);
        x.back(0);
        Checks.refused(x, "undo() behind back()", LaneDoors::undo);
        Checks.refused(x, "redo() behind back()", LaneDoors::redo);
    }
}
