/** Promises 22 to 32, but for carts and winds (ActsTest): what can be open together. */
public final class OpeningTest {
    // a and b hinder each other; c hinders d, d not c; e is tied and open in a lane of its own.
    private static final String TOWN = "lane main long 8 wide 3;lane side long 4 wide 2;"
            + "door a in main at 0 broad 2 left north;door b in main at 0 broad 2 right south;"
            + "door c in main at 3 broad 1 left south;door d in main at 3 broad 3 right north;"
            + "door e in side at 1 broad 2 left north tied open;oil broad + times;stock 99;";

    public static void main(String[] args) {
        orders();
        manyOrders();
        most();
        stuck();
        feast();
        never();
        turn();
        turnThree();
        ask();
        vow();
        good();
        Checks.finish();
    }

    private static void orders() {
        LaneDoors x = Checks.town(TOWN);
        Checks.due("orders of none", x.orders(0), 1);
        Checks.lie("none", x);
        Checks.due("orders of d, c", x.orders(12), 1);
        Checks.lie("d, c", x, 3, 2);
        Checks.due("orders of a and b", x.orders(3), 0);
        Checks.lie("a and b", x);
        Checks.due("orders of a, d, c", x.orders(13), 3);
        Checks.lie("a, d, c", x, 0, 3, 2);
        Checks.due("orders with one that is open", x.orders(17), -1);
        Checks.lie("one that is open", x);
        x.orders(1);
        Checks.due("orders with no door", x.orders(32), -1);
        Checks.lie("no door", x);
        Checks.due("orders(-1)", x.orders(-1), -1);
        Checks.due("orders(1 << 31)", x.orders(1 << 31), -1);
        x.open(2);
        Checks.due("d behind c", x.orders(8), 0);
        Checks.due("nothing is done", x.about(3), 20);
        x.off(3);
        Checks.due("one that is off", x.orders(8), 0);
        LaneDoors tied = Checks.town("lane l long 2 wide 2;door a in l at 0 broad 1 left north tied;");
        Checks.due("a tied one", tied.orders(1), 0);
    }

    private static String tenDoors() {
        StringBuilder text = new StringBuilder("lane l long 16 wide 8;");
        for (int i = 0; i < 10; i++) {
            text.append("door ").append((char) ('a' + i)).append(" in l at ").append(i)
                    .append(" broad 1 left north;");
        }
        return text + "oil 10 - place;";
    }

    private static void manyOrders() {
        LaneDoors x = Checks.town(tenDoors());
        Checks.due("all orders of ten", x.orders(1023), 3628800);
        Checks.lie("ten", x, 0, 1, 2, 3, 4, 5, 6, 7, 8, 9);
        Checks.due("tales of ten", x.tales(1023, 0), 3628800);
        Checks.due("half of them", x.ahead(1023, 9, 0, 0), 1814400);
        Checks.due("most of ten", x.most(1), 1023);
        Checks.due("feast of ten", x.feast(10, 0), 55);
        Checks.due("feast of three", x.feast(3, 1), 0x380);
        Checks.due("feast of eleven", x.feast(11, 0), -1);
        Checks.due("stuck of ten", x.stuck(0), 10);
        Checks.due("race of five and five", x.race(0x1f, 0x3e0), 0);
        Checks.due("race of six and four", x.race(0x3f, 0x3c0), 10);
    }

    private static void most() {
        LaneDoors x = Checks.town(TOWN);
        Checks.due("most(0)", x.most(0), 4);
        Checks.due("most(1)", x.most(1), 1 + 4 + 8 + 16);
        Checks.due("most(2)", x.most(2), -1);
        Checks.due("most(-1)", x.most(-1), -1);
        x.open(2);
        Checks.due("most(1) behind c", x.most(1), 1 + 4 + 16);
        x.off(0);
        Checks.due("most(1) without a", x.most(1), 2 + 4 + 16);
        Checks.due("nothing is done", x.about(3), 20);
    }

    private static void stuck() {
        LaneDoors x = Checks.town(TOWN);
        Checks.due("stuck(0)", x.stuck(0), 3);
        Checks.due("stuck(1)", x.stuck(1), 1 + 4 + 16);
        Checks.due("stuck(2)", x.stuck(2), -1);
        Checks.due("stuck(-1)", x.stuck(-1), -1);
        x.open(1);
        x.open(3);
        Checks.due("stuck(1) behind b and d", x.stuck(1), 2 + 4 + 8 + 16);
        // A single one that hinders both others is the fewest, though the others are more.
        LaneDoors one = Checks.town("lane l long 4 wide 2;door a in l at 0 broad 1 left north;door b in l at 1 broad 1 left north;"
                + "door c in l at 0 broad 2 left south;");
        Checks.due("c hinders a alone", one.hinders(2, 0) * 10 + one.hinders(2, 1), 10);
        Checks.due("stuck(1)", one.stuck(1), 3);
    }

    private static void feast() {
        LaneDoors x = Checks.town(TOWN);
        Checks.due("feast(0, 0)", x.feast(0, 0), 0);
        Checks.due("feast(0, 1)", x.feast(0, 1), 0);
        Checks.due("feast(1, 0)", x.feast(1, 0), 1);
        Checks.due("feast(1, 1)", x.feast(1, 1), 4);
        Checks.due("feast(2, 1)", x.feast(2, 1), 5);
        Checks.due("feast(3, 0)", x.feast(3, 0), 6);
        Checks.due("feast(3, 1)", x.feast(3, 1), 13);
        Checks.due("feast(4, 0)", x.feast(4, 0), -1);
        Checks.due("feast(4, 1)", x.feast(4, 1), -1);
        Checks.due("feast(-1, 0)", x.feast(-1, 0), -1);
        Checks.due("feast(1, 2)", x.feast(1, 2), -1);
        x.open(0);
        x.shut(0);
        Checks.due("a is dearer now", x.feast(2, 1), 6);
        LaneDoors dear = Checks.town("lane l long 4 wide 2;door a in l at 0 broad 1 left north;oil 500;stock 1;");
        Checks.due("no matter the stock", dear.feast(1, 0), 500);
    }

    private static void never() {
        LaneDoors x = Checks.town(TOWN);
        Checks.due("never(0)", x.never(0), 2 + 16);
        Checks.due("never(2)", x.never(2), 16);
        Checks.due("never(4), a tied one", x.never(4), 15);
        Checks.due("never(5)", x.never(5), -1);
        Checks.due("never(-1)", x.never(-1), -1);
        x.open(2);
        Checks.due("no matter what is open", x.never(3), 16);
        x.off(1);
        Checks.due("one that is off", x.never(3), 2 + 16);
        Checks.due("with one that is off", x.never(1), 1 + 4 + 8 + 16);
        x.hinge(0);
        Checks.due("hinges as now", x.never(0), 2 + 16);
    }

    private static void turn() {
        LaneDoors x = Checks.town("lane l long 5 wide 3;door a in l at 0 broad 2 right north;door b in l at 1 broad 2 left south;"
                + "door c in l at 3 broad 2 left north tied;door d in l at 3 broad 1 left south open;");
        Checks.due("orders of a and b", x.orders(3), 0);
        Checks.due("turn(3, 0)", x.turn(3, 0), 1);
        Checks.due("turn(3, 1)", x.turn(3, 1), 1);
        Checks.due("turn(3, 2)", x.turn(3, 2), -1);
        Checks.due("turn(3, -1)", x.turn(3, -1), -1);
        Checks.due("turn(1, 0)", x.turn(1, 0), 0);
        Checks.due("turn(0, 1)", x.turn(0, 1), 0);
        Checks.due("a tied one", x.turn(4, 0), -1);
        Checks.due("an open one", x.turn(8, 0), -1);
        Checks.due("no door", x.turn(16, 0), -1);
        Checks.due("no set", x.turn(-1, 0), -1);
        Checks.due("nothing is done", x.door(0, 3), 1);
        x.off(0);
        Checks.due("one that is off", x.turn(3, 0), -1);
        // Whoever is open and in the way stays there: no hinge helps.
        LaneDoors open = Checks.town("lane l long 5 wide 1;door a in l at 0 broad 2 left north;door b in l at 1 broad 2 left south open;");
        Checks.due("turn behind an open one", open.turn(1, 0), -1);
    }

    private static void turnThree() {
        // Each two stand against each other with hinges on the same two places, so that one has to turn.
        StringBuilder text = new StringBuilder();
        for (int i = 0; i < 4; i++) {
            char c = (char) ('a' + i);
            text.append("lane ").append(c).append(" long 5 wide 3;door n").append(c).append(" in ").append(c)
                    .append(" at 0 broad 2 right north;door s").append(c).append(" in ").append(c)
                    .append(" at 1 broad 2 left south;");
        }
        LaneDoors x = Checks.town(text.toString());
        Checks.due("two lanes", x.turn(0x0f, 1), 0x05);
        Checks.due("three lanes", x.turn(0x3f, 1), 0x15);
        Checks.due("three lanes", x.turn(0x3f, 0), 3);
        Checks.due("four lanes", x.turn(0xff, 0), -1);
        x.hinge(6);
        Checks.due("four lanes, one turned", x.turn(0xff, 0), 3);
    }

    private static void ask() {
        LaneDoors x = Checks.town("lane l long 5 wide 1;door a in l at 0 broad 4 left north;door b in l at 1 broad 1 left south open;"
                + "door c in l at 2 broad 1 left south open;door d in l at 3 broad 1 left south;");
        Checks.due("ask(0)", x.ask(0), 6);
        Checks.due("ask(3)", x.ask(3), 0);
        Checks.due("ask(4)", x.ask(4), -1);
        Checks.due("ask(-1)", x.ask(-1), -1);
        LaneDoors both = Checks.town("lane l long 2 wide 1;door a in l at 0 broad 2 left north open;door b in l at 0 broad 2 right south open;");
        Checks.due("one that is open itself", both.ask(0), 2);
    }

    private static void vow() {
        // b is against a and c alike; without it both can stand open.
        LaneDoors x = Checks.town("lane l long 4 wide 2;door a in l at 0 broad 1 left north;door b in l at 0 broad 2 left south;"
                + "door c in l at 1 broad 1 left north;door t in l at 3 broad 1 left north tied;");
        Checks.due("most(0)", x.most(0), 2);
        Checks.due("vow(0)", x.vow(0), 2);
        Checks.due("vow(1)", x.vow(1), 0);
        Checks.due("vow(2)", x.vow(2), -1);
        Checks.due("vow(-1)", x.vow(-1), -1);
        x.open(0);
        Checks.due("vow(0) behind a", x.vow(0), 2);
        Checks.due("vow(1) behind a", x.vow(1), 1);
        x.off(1);
        x.open(2);
        Checks.due("none to be taken off", x.vow(0), -1);
        Checks.due("none to be taken off", x.vow(1), -1);
        LaneDoors y = Checks.town("lane l long 4 wide 2;door a in l at 0 broad 2 left north;door b in l at 0 broad 2 left south;door c in l at 2 broad 1 left north;");
        Checks.due("vow(1)", y.vow(1), 0);
        y.off(0);
        Checks.due("vow(0) of b and c", y.vow(0), 1);
        Checks.due("vow(1) of b and c", y.vow(1), 1);
    }

    private static void good() {
        LaneDoors x = Checks.town("lane l long 5 wide 3;door a in l at 0 broad 2 right north;door b in l at 1 broad 2 left south;");
        Checks.due("good(0)", x.good(0), 2);
        Checks.due("good(1)", x.good(1), 0);
        Checks.due("good(2)", x.good(2), -1);
        Checks.due("good(-1)", x.good(-1), -1);
        x.hinge(0);
        Checks.due("good(0), none is needed", x.good(0), 2);
        Checks.due("good(1), none is needed", x.good(1), -1);
        x.hinge(0);
        x.off(0);
        Checks.due("good(0) without a", x.good(0), 1);
        Checks.due("good(1) without a", x.good(1), -1);
        LaneDoors tied = Checks.town("lane l long 5 wide 3;door a in l at 0 broad 2 right north;door b in l at 1 broad 2 left south tied open;");
        Checks.due("a tied one in the way", tied.good(0), 1);
        LaneDoors second = Checks.town("lane l long 5 wide 3;door a in l at 0 broad 2 right north tied;door b in l at 1 broad 2 left south;");
        Checks.due("nothing to win", second.good(1), -1);
    }
}
