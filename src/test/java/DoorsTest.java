/** Promises 6 to 12: what is now. */
public final class DoorsTest {
    private static final String TOWN = "lane main long 8 wide 3;lane side long 4 wide 2;"
            + "door a in main at 0 broad 2 left north;door b in main at 0 broad 2 right south;"
            + "door c in main at 3 broad 1 left south loose;door d in main at 3 broad 3 right north loose;"
            + "door e in side at 1 broad 3 left north tied open;"
            + "oil broad * 10 + times + place - 30 * day;stock 99;";

    public static void main(String[] args) {
        doors();
        hinders();
        can();
        free();
        oil();
        sums();
        Checks.finish();
    }

    private static void doors() {
        LaneDoors x = Checks.town(TOWN);
        int[][] due = {
            {0, 0, 2, 0, 0, 0, 0, 0, 0, 0}, {0, 0, 2, 1, 1, 0, 0, 0, 0, 0}, {0, 3, 1, 3, 1, 0, 0, 1, 0, 0},
            {0, 3, 3, 5, 0, 0, 0, 1, 0, 0}, {1, 1, 3, 1, 0, 1, 0, 0, 1, 0}};
        for (int d = 0; d < due.length; d++) {
            for (int what = 0; what <= 9; what++) {
                Checks.due("door(" + d + ", " + what + ")", x.door(d, what), due[d][what]);
            }
        }
        Checks.due("door(0, 10)", x.door(0, 10), -2);
        Checks.due("door(0, -1)", x.door(0, -1), -2);
        Checks.due("door(5, 0)", x.door(5, 0), -2);
        Checks.due("door(-1, 0)", x.door(-1, 0), -2);
        x.hinge(0);
        Checks.due("the hinge now", x.door(0, 3), 1);
        x.open(0);
        Checks.due("open now", x.door(0, 5), 1);
        Checks.due("times now", x.door(0, 9), 1);
        x.off(1);
        Checks.due("off now", x.door(1, 6), 1);
    }

    private static void hinders() {
        LaneDoors x = Checks.town(TOWN);
        Checks.due("c hinders d", x.hinders(2, 3), 1);
        Checks.due("d hinders c not", x.hinders(3, 2), 0);
        Checks.due("a hinders itself not", x.hinders(0, 0), 0);
        Checks.due("of no door", x.hinders(0, 5), -1);
        Checks.due("no door", x.hinders(-1, 0), -1);
        Checks.due("no door at all", x.hinders(7, 7), -1);
        Checks.due("pairs(0)", x.pairs(0), 2);
        Checks.due("pairs(1)", x.pairs(1), 1);
        Checks.due("pairs(2)", x.pairs(2), -1);
        Checks.due("pairs(-1)", x.pairs(-1), -1);
        // Both reach 2 together: not farther than the lane is wide.
        LaneDoors fits = Checks.town("lane l long 4 wide 2;door a in l at 0 broad 1 left north;door b in l at 0 broad 1 left south;");
        Checks.due("two that fit", fits.hinders(0, 1), 0);
        // A door reaches no farther than its lane is wide, and hinders those on the other side alone.
        LaneDoors thin = Checks.town("lane l long 8 wide 1;door a in l at 0 broad 4 right north;"
                + "door b in l at 3 broad 1 left south;door c in l at 4 broad 1 left north;door d in l at 0 broad 3 left south;");
        Checks.due("a hinders b", thin.hinders(0, 1), 1);
        Checks.due("b hinders a", thin.hinders(1, 0), 1);
        Checks.due("a hinders d not", thin.hinders(0, 3), 0);
        Checks.due("d hinders a", thin.hinders(3, 0), 1);
        Checks.due("c stands beside", thin.hinders(2, 1), 0);
        // In lanes of their own nothing hinders.
        LaneDoors apart = Checks.town("lane l long 8 wide 1;lane m long 8 wide 1;door a in l at 0 broad 1 left north;door b in m at 0 broad 1 left south;");
        Checks.due("apart", apart.hinders(0, 1), 0);
    }

    private static void can() {
        LaneDoors x = Checks.town(TOWN);
        Checks.due("can(0)", x.can(0), 1);
        Checks.due("a tied open one", x.can(4), 0);
        Checks.due("can(5)", x.can(5), -1);
        Checks.due("can(-1)", x.can(-1), -1);
        x.open(0);
        Checks.due("an open one", x.can(0), 0);
        Checks.due("one that it hinders", x.can(1), 0);
        x.shut(0);
        x.open(1);
        Checks.due("the first one, hindered", x.can(0), 0);
        Checks.due("how many can", x.sum(1), 2);
        x.shut(1);
        x.off(0);
        Checks.due("one that is off", x.can(0), 0);
        Checks.due("one not hindered any more", x.can(1), 1);
        LaneDoors tied = Checks.town("lane l long 2 wide 2;door a in l at 0 broad 1 left north tied;");
        Checks.due("a tied shut one", tied.can(0), 0);
    }

    private static void free() {
        LaneDoors x = Checks.town(TOWN);
        Checks.due("where nothing stands", x.free(0, 0), 3);
        Checks.due("where e stands", x.free(1, 1), 0);
        Checks.due("beside e", x.free(1, 2), 2);
        Checks.due("no such place", x.free(1, 4), -1);
        Checks.due("no such place", x.free(0, -1), -1);
        Checks.due("no such lane", x.free(2, 0), -1);
        Checks.due("no such lane", x.free(-1, 0), -1);
        x.open(0);
        Checks.due("where a stands", x.free(0, 0), 1);
        // Two open ones that reach too far together leave 0.
        LaneDoors both = Checks.town("lane l long 2 wide 3;door a in l at 0 broad 2 left north open;door b in l at 0 broad 2 left south open;");
        Checks.due("less than nothing", both.free(0, 0), 0);
    }

    private static void oil() {
        LaneDoors x = Checks.town(TOWN);
        Checks.due("oil(0)", x.oil(0), 20);
        Checks.due("oil(3)", x.oil(3), 33);
        Checks.due("oil of one that is open", x.oil(4), 31);
        Checks.due("oil(5)", x.oil(5), -1);
        Checks.due("oil(-1)", x.oil(-1), -1);
        x.open(0);
        Checks.due("oil behind one time", x.oil(0), 21);
        x.day();
        Checks.due("oil a day later", x.oil(3), 3);
        Checks.due("0 at least", x.oil(0), 0);
        Checks.due("not told", Checks.town("lane l long 2 wide 2;door a in l at 0 broad 1 left north;").oil(0), 0);
        formula("1000", 999);
        formula("9999 * 9999 * 43 % 1000", 747);
        formula("9999 * 9999 * 25", 0);
        formula("7 - 2 - 1", 4);
        formula("2 + 3 * 4", 14);
        formula("(2 + 3) * 4", 20);
        formula("20 / 3 / 2", 3);
        formula("17 % 5 * 3", 6);
        formula("0 - (0 - 7) / 2", 3);
        formula("0 - (0 - 7) % 2", 1);
        formula("7 / 0 + 1", 1);
        formula("7 % 0 + 1", 1);
        formula("1 < 2", 1);
        formula("2 < 2", 0);
        formula("2 > 1", 1);
        formula("2 > 2", 0);
        formula("2 = 2", 1);
        formula("2 = 3", 0);
        formula("5 and 7", 1);
        formula("5 and 0", 0);
        formula("0 or 7", 1);
        formula("0 or 0", 0);
        formula("not 5", 0);
        formula("not 0", 1);
        formula("not 1 < 0", 1);
        formula("not not 5", 1);
        formula("1 or 1 and 0", 1);
        formula("(1 or 1) and 0", 0);
        formula("0 and 0 or 1", 1);
        formula("3 * (not 0) + 1", 4);
        formula("0 - 1 or 0", 1);
        formula("place * 100 + broad * 10 + times + day", 320);
        formula("1+2*3-4/2%3", 5);
        // The longest formula there can be: 30 units, each behind 7 nots.
        String nots = "not ".repeat(7);
        formula((nots + "0 and ").repeat(29) + nots + "0", 1);
        formula((nots + "0 and ").repeat(29) + nots + "1", 0);
        formula("20-(1-(1-(1-(1-(1-(1-(9-2)))))))", 13);
    }

    /** The oil of a door with place 3 and breadth 2. */
    private static void formula(String e, int due) {
        LaneDoors x = Checks.town("lane l long 8 wide 2;door a in l at 3 broad 2 right north;oil " + e + ";");
        Checks.due("oil " + e, x.oil(0), due);
    }

    private static void sums() {
        LaneDoors x = Checks.town(TOWN);
        Checks.due("sum(0)", x.sum(0), 0);
        Checks.due("sum(1)", x.sum(1), 4);
        Checks.due("sum(2)", x.sum(2), 20 + 20 + 13 + 33);
        Checks.due("sum(3)", x.sum(3), -1);
        Checks.due("sum(-1)", x.sum(-1), -1);
        x.open(0);
        x.wind();
        Checks.due("sum(0) then", x.sum(0), 3 - (x.door(3, 5) == 0 ? 1 : 0));
        x.shut(0);
        x.open(0);
        Checks.due("times of a", x.door(0, 9), 2);
    }
}
