/** Promises 13 to 21: acts, undone and done again. */
public final class ActsTest {
    private static final String LANE = "lane l long 8 wide 3;";

    public static void main(String[] args) {
        open();
        shut();
        hinge();
        off();
        cart();
        dayAndWind();
        undo();
        manyActs();
        Checks.finish();
    }

    private static void open() {
        LaneDoors x = Checks.town(LANE + "door a in l at 0 broad 2 left north;door b in l at 1 broad 2 left south;"
                + "door c in l at 4 broad 1 left south;door d in l at 6 broad 2 left south;oil broad * 3;stock 11;");
        Checks.due("open(-1)", x.open(-1), -1);
        Checks.due("open(4)", x.open(4), -1);
        Checks.due("open(1)", x.open(1), 5);
        Checks.due("open again", x.open(1), -1);
        Checks.due("one that is hindered", x.open(0), -1);
        Checks.due("too dear", x.open(3), -1);
        Checks.due("cheap enough", x.open(2), 2);
        Checks.due("nothing was done by the others", x.about(8), 2);
        Checks.due("what is open", x.about(3), 6);
        LaneDoors even = Checks.town(LANE + "door a in l at 0 broad 2 left north;oil 5;stock 5;");
        Checks.due("just enough", even.open(0), 0);
        Checks.due("times", even.door(0, 9), 1);
        LaneDoors tied = Checks.town(LANE + "door a in l at 0 broad 2 left north tied;");
        Checks.due("a tied one", tied.open(0), -1);
    }

    private static void shut() {
        LaneDoors x = Checks.town(LANE + "door a in l at 0 broad 2 left north open;door b in l at 3 broad 2 left north tied open;door c in l at 6 broad 1 left north;");
        Checks.due("shut(-1)", x.shut(-1), false);
        Checks.due("shut(3)", x.shut(3), false);
        Checks.due("a tied one", x.shut(1), false);
        Checks.due("a shut one", x.shut(2), false);
        Checks.due("no acts", x.about(8), 0);
        Checks.due("shut(0)", x.shut(0), true);
        Checks.due("what is open", x.about(3), 2);
        Checks.due("shut again", x.shut(0), false);
        Checks.due("one act", x.about(8), 1);
    }

    private static void hinge() {
        LaneDoors x = Checks.town(LANE + "door a in l at 0 broad 3 left north;door b in l at 3 broad 2 left north tied;"
                + "door c in l at 5 broad 2 right north open;door d in l at 7 broad 1 left north;");
        Checks.due("hinge(0)", x.hinge(0), 2);
        Checks.due("and back", x.hinge(0), 0);
        Checks.due("a tied one", x.hinge(1), -1);
        Checks.due("an open one", x.hinge(2), -1);
        Checks.due("hinge(4)", x.hinge(4), -1);
        Checks.due("hinge(-1)", x.hinge(-1), -1);
        Checks.due("one place", x.hinge(3), 7);
        Checks.due("acts", x.about(8), 3);
        x.shut(2);
        Checks.due("right to left", x.hinge(2), 5);
        x.off(2);
        Checks.due("one that is off", x.hinge(2), -1);
    }

    private static void off() {
        LaneDoors x = Checks.town(LANE + "door a in l at 0 broad 3 left north;door b in l at 3 broad 2 left north tied;door c in l at 5 broad 2 right north open;");
        Checks.due("off(0)", x.off(0), true);
        Checks.due("off already", x.off(0), false);
        Checks.due("a tied one", x.off(1), false);
        Checks.due("an open one", x.off(2), false);
        Checks.due("off(3)", x.off(3), false);
        Checks.due("off(-1)", x.off(-1), false);
        Checks.due("bits", x.about(4), 1);
        Checks.due("never open again", x.open(0), -1);
        Checks.due("undone", x.undo(), true);
        Checks.due("it can again", x.open(0), 0);
    }

    private static void cart() {
        // a and b yield to a cart to greater places, c to one to less places, t is tied.
        String town = LANE + "door a in l at 1 broad 2 left north open;door b in l at 3 broad 2 left south open;"
                + "door c in l at 4 broad 2 right north open;door t in l at 7 broad 1 left north tied open;";
        LaneDoors x = Checks.town(town);
        Checks.due("push past a", x.push(0, 0, 2, 3), 1);
        Checks.due("push past a and b", x.push(0, 0, 4, 3), 3);
        Checks.due("push to the place of a", x.push(0, 0, 1, 3), 1);
        Checks.due("push to the place of c", x.push(0, 6, 5, 3), 4);
        Checks.due("from the place of c", x.push(0, 5, 4, 2), -1);
        Checks.due("from the place of c, narrow", x.push(0, 5, 4, 1), 0);
        Checks.due("c is behind", x.push(0, 4, 2, 3), -1);
        Checks.due("c does not yield", x.push(0, 0, 6, 2), -1);
        Checks.due("but leaves 1", x.push(0, 0, 6, 1), 3);
        Checks.due("the first place is not pushed", x.push(0, 1, 2, 2), -1);
        Checks.due("a narrow one gets out of it", x.push(0, 1, 2, 1), 0);
        Checks.due("back past c", x.push(0, 6, 4, 3), 4);
        Checks.due("back to b, that does not yield", x.push(0, 6, 3, 2), -1);
        Checks.due("t is tied", x.push(0, 6, 7, 3), -1);
        Checks.due("past t", x.push(0, 6, 7, 2), 0);
        Checks.due("no such place", x.push(0, 0, 8, 1), -1);
        Checks.due("no such place", x.push(0, -1, 2, 1), -1);
        Checks.due("no such lane", x.push(1, 0, 2, 1), -1);
        Checks.due("nowhere", x.push(0, 2, 2, 1), -1);
        Checks.due("too broad", x.push(0, 0, 2, 9), -1);
        Checks.due("too narrow", x.push(0, 0, 2, 0), -1);
        Checks.due("nothing was done", x.about(3), 15);
        Checks.due("cart that can't", x.cart(0, 1, 2, 2), -1);
        Checks.due("cart nowhere", x.cart(0, 2, 2, 1), -1);
        Checks.due("no act", x.about(8), 0);
        Checks.due("cart", x.cart(0, 0, 4, 3), 3);
        Checks.due("open then", x.about(3), 12);
        Checks.due("a cart that pushes nothing is an act", x.cart(0, 0, 1, 8 - 5), 0);
        Checks.due("acts", x.about(8), 2);
        x.undo();
        x.undo();
        Checks.due("open again", x.about(3), 15);
    }

    private static void dayAndWind() {
        LaneDoors x = Checks.town(LANE + "door a in l at 0 broad 2 left north loose;door b in l at 0 broad 2 left south loose;"
                + "door c in l at 4 broad 2 left south;door d in l at 6 broad 1 left south loose tied;draw 2;oil 5;");
        Checks.due("day()", x.day(), 1);
        Checks.due("day()", x.day(), 2);
        // 2 * 137 + 71 = 345: odd, so from the last on.
        Checks.due("wind()", x.wind(), 2);
        Checks.due("the seed", x.about(7), 345);
        Checks.due("times", x.door(1, 9), 1);
        Checks.due("no oil", x.about(5), 0);
        x.shut(1);
        // 345 * 137 + 71 = 47336: even, so from the first on.
        Checks.due("wind()", x.wind(), 1);
        Checks.due("the seed", x.about(7), 336);
        Checks.due("a wind that opens nothing", x.wind(), 0);
        Checks.due("is an act", x.about(8), 6);
        Checks.due("gusts(0)", x.gusts(0), 1);
        x.shut(0);
        // 336 * 137 + 71 = ..103 was the third; then 103 * 137 + 71 = 14182: from the first on.
        Checks.due("the seed", x.about(7), 103);
        Checks.due("calm() with a wind", x.calm(), 1);
        Checks.due("gusts(1)", x.gusts(1), 1);
        Checks.due("gusts(20)", x.gusts(20), 1);
        Checks.due("gusts(21)", x.gusts(21), -1);
        Checks.due("gusts(-1)", x.gusts(-1), -1);
        Checks.due("nothing was done", x.about(7), 103);
        x.wind();
        Checks.due("calm() now", x.calm(), 0);
    }

    private static void undo() {
        LaneDoors x = Checks.town(LANE + "door a in l at 0 broad 2 left north;door b in l at 4 broad 2 left south loose;oil 2;stock 9;draw 1;");
        x.open(0);
        x.wind();
        x.day();
        x.hinge(0);
        Checks.due("acts", x.about(8), 3);
        Checks.due("undo()", x.undo(), true);
        Checks.due("the day", x.about(6), 0);
        Checks.due("undo()", x.undo(), true);
        Checks.due("the seed", x.about(7), 1);
        Checks.due("what is open", x.about(3), 1);
        Checks.due("times", x.sum(0), 1);
        Checks.due("undo()", x.undo(), true);
        Checks.due("the stock", x.about(5), 9);
        Checks.due("undo() of none", x.undo(), false);
        Checks.due("to be redone", x.about(9), 3);
        Checks.due("redo()", x.redo(), true);
        Checks.due("the stock", x.about(5), 7);
        Checks.due("redo()", x.redo(), true);
        Checks.due("the seed", x.about(7), 208);
        Checks.due("what is open", x.about(3), 3);
        // What does nothing is no act.
        Checks.due("open(0)", x.open(0), -1);
        Checks.due("to be redone", x.about(9), 1);
        x.shut(0);
        Checks.due("not to be redone", x.about(9), 0);
        Checks.due("redo() of none", x.redo(), false);
        Checks.due("acts", x.about(8), 3);
    }

    private static void manyActs() {
        LaneDoors x = new LaneDoors();
        for (int i = 1; i <= 45; i++) {
            Checks.due("day()", x.day(), i);
            Checks.due("acts", x.about(8), Math.min(40, i));
        }
        for (int i = 1; i <= 40; i++) {
            Checks.due("undo()", x.undo(), true);
            Checks.due("the day", x.about(6), 45 - i);
        }
        Checks.due("the oldest are gone", x.undo(), false);
        Checks.due("to be redone", x.about(9), 40);
        for (int i = 1; i <= 40; i++) {
            Checks.due("redo()", x.redo(), true);
            Checks.due("the day", x.about(6), 5 + i);
        }
        Checks.due("redo() of none", x.redo(), false);
        x.undo();
        x.undo();
        x.wind();
        Checks.due("acts", x.about(8), 39);
        Checks.due("the day", x.about(6), 43);
        Checks.due("redo() behind another act", x.redo(), false);
        // The last day; one object is asked for 512 calls only, but the bound must stand all the same.
        LaneDoors y = new LaneDoors();
        for (int i = 1; i <= 9999; i++) {
            y.day();
        }
        Checks.due("the last day", y.about(6), 9999);
        Checks.due("none behind it", y.day(), -1);
    }
}
