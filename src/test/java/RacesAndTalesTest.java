/** Promises 42 to 52: races, what was heard, tales, images and counts. */
public final class RacesAndTalesTest {
    // a and b hinder each other; c hinders d, d not c; e is tied.
    private static final String TOWN = "lane l long 8 wide 3;door a in l at 0 broad 2 left north;door b in l at 0 broad 2 right south;"
            + "door c in l at 3 broad 1 left south;door d in l at 3 broad 3 right north;"
            + "door e in l at 6 broad 2 left north tied;stock 50;oil 2;draw 5;";

    public static void main(String[] args) {
        race();
        heard();
        later();
        tales();
        twoTimes();
        ahead();
        images();
        about();
        Checks.finish();
    }

    private static void race() {
        LaneDoors x = Checks.town(TOWN);
        Checks.due("nobody has any", x.race(0, 0), 0);
        Checks.due("the first has one", x.race(4, 0), 12);
        Checks.due("the second has one", x.race(0, 4), 0);
        Checks.due("each has one", x.race(4, 1), 0);
        Checks.due("one against one", x.race(1, 2), 10);
        Checks.due("the second of his", x.race(12, 3), 13);
        Checks.due("the other way round", x.race(3, 12), 0);
        Checks.due("one in both", x.race(5, 4), -1);
        Checks.due("no door", x.race(32, 0), -1);
        Checks.due("no door", x.race(0, 32), -1);
        Checks.due("no sets", x.race(-1, 0), -1);
        Checks.due("no sets", x.race(0, -1), -1);
        Checks.due("a tied one is none", x.race(16, 0), 0);
        x.open(2);
        Checks.due("an open one is none", x.race(4, 0), 0);
        Checks.due("d is hindered", x.race(8, 0), 0);
        Checks.due("nothing is done", x.about(3), 4);
    }

    private static void heard() {
        LaneDoors x = Checks.town(TOWN);
        Checks.due("heard(0, 0)", x.heard(0, 0), -1);
        Checks.due("heard(0, 5)", x.heard(0, 5), -1);
        Checks.due("heard(-1, 0)", x.heard(-1, 0), -1);
        Checks.due("untell of none", x.untell(0), false);
        for (int i = 0; i < 30; i++) {
            Checks.due("heard", x.heard(i % 2, 4 - i % 2), i);
        }
        Checks.due("the 31st", x.heard(0, 1), -1);
        Checks.due("what is heard", x.about(10), 30);
        Checks.due("untell(29)", x.untell(29), true);
        Checks.due("untell(29) again", x.untell(29), false);
        Checks.due("untell(30)", x.untell(30), false);
        Checks.due("untell(-1)", x.untell(-1), false);
        Checks.due("it stays known", x.about(10), 30);
        Checks.due("and takes its room", x.heard(0, 1), -1);
        Checks.due("no act", x.about(8), 0);
    }

    private static void later() {
        LaneDoors x = new LaneDoors();
        Checks.due("later(0)", x.later(0), 0);
        Checks.due("later(7)", x.later(7), 7);
        Checks.due("later(-1)", x.later(-1), -1);
        Checks.due("later(1001)", x.later(1001), -1);
        for (int i = 1; i < 100; i++) {
            x.later(1000);
        }
        Checks.due("the time", x.about(11), 99007);
        Checks.due("too late", x.later(994), -1);
        Checks.due("the last time", x.later(993), 100000);
        Checks.due("behind it", x.later(1), -1);
        Checks.due("at it", x.later(0), 100000);
    }

    private static void tales() {
        LaneDoors x = Checks.town(TOWN);
        Checks.due("tales of none", x.tales(0, 0), 1);
        Checks.lie("none", x);
        Checks.due("firsts of none", x.firsts(0, 0), 0);
        Checks.due("tales of d, c", x.tales(12, 0), 1);
        Checks.lie("d, c", x, 3, 2);
        Checks.due("tales of a, b", x.tales(3, 0), 0);
        Checks.lie("a, b", x);
        Checks.due("firsts of a, b", x.firsts(3, 0), 0);
        Checks.due("tales of a, d, c", x.tales(13, 0), 3);
        Checks.lie("a, d, c", x, 0, 3, 2);
        Checks.due("firsts of a, d, c", x.firsts(13, 0), 9);
        Checks.lie("still a, d, c", x, 0, 3, 2);
        Checks.due("a tied one", x.tales(16, 0), -1);
        Checks.lie("a tied one", x);
        Checks.due("firsts of a tied one", x.firsts(16, 0), -1);
        Checks.due("no door", x.tales(32, 0), -1);
        Checks.due("no set", x.tales(-1, 0), -1);
        Checks.due("no set", x.firsts(-1, 0), -1);
        x.open(2);
        Checks.due("no matter what is open", x.tales(13, 0), 3);
        x.off(0);
        Checks.due("one that is off", x.tales(13, 0), -1);
        Checks.due("firsts of one that is off", x.firsts(13, 0), -1);
    }

    private static void twoTimes() {
        LaneDoors x = Checks.town(TOWN);
        x.later(10);
        Checks.due("heard", x.heard(3, 0), 0);
        x.later(10);
        Checks.due("heard", x.heard(0, 2), 1);
        Checks.due("as known at 9", x.tales(13, 9), 3);
        Checks.due("as known at 10", x.tales(13, 10), 2);
        Checks.lie("10", x, 3, 0, 2);
        Checks.due("firsts at 10", x.firsts(13, 10), 8);
        Checks.due("as known at 20", x.tales(13, 20), 1);
        Checks.due("as known later", x.tales(13, 99999), 1);
        Checks.due("as known before all", x.tales(13, -7), 3);
        x.later(5);
        x.untell(0);
        Checks.due("as known at 24", x.tales(13, 24), 1);
        Checks.due("as known at 25", x.tales(13, 25), 2);
        Checks.lie("25", x, 0, 3, 2);
        x.heard(2, 3);
        Checks.due("against the doors", x.tales(13, 25), 0);
        Checks.lie("nothing", x);
        Checks.due("of others it is nothing", x.tales(5, 25), 1);
        x.untell(2);
        Checks.due("told and untold at one time", x.tales(13, 25), 2);
        x.heard(0, 3);
        x.heard(3, 0);
        Checks.due("both ways", x.tales(9, 25), 0);
        Checks.due("firsts of no tale", x.firsts(9, 25), 0);
    }

    private static void ahead() {
        LaneDoors x = Checks.town(TOWN);
        Checks.due("a ahead of c", x.ahead(13, 0, 2, 0), 2);
        Checks.due("c ahead of a", x.ahead(13, 2, 0, 0), 1);
        Checks.due("d ahead of c", x.ahead(13, 3, 2, 0), 3);
        Checks.due("c ahead of d", x.ahead(13, 2, 3, 0), 0);
        Checks.due("a ahead of itself", x.ahead(13, 0, 0, 0), -1);
        Checks.due("one that is not in it", x.ahead(12, 0, 2, 0), -1);
        Checks.due("one that is not in it", x.ahead(12, 2, 0, 0), -1);
        Checks.due("no door", x.ahead(13, 5, 0, 0), -1);
        Checks.due("no door", x.ahead(13, 0, -1, 0), -1);
        Checks.due("a door far beyond", x.ahead(13, 32, 0, 0), -1);
        Checks.due("a tied one", x.ahead(29, 0, 2, 0), -1);
        Checks.due("no set", x.ahead(-1, 0, 2, 0), -1);
        x.tales(13, 0);
        x.heard(2, 0);
        Checks.due("with what is heard", x.ahead(13, 0, 2, 0), 0);
        Checks.due("before it was", x.ahead(13, 0, 2, -1), 2);
        Checks.lie("ahead", x, 0, 3, 2);
    }

    private static void images() {
        LaneDoors x = Checks.town(TOWN);
        Checks.due("image(-1)", x.image(-1), -1);
        Checks.due("image(3)", x.image(3), -1);
        Checks.due("back(3)", x.back(3), -1);
        Checks.due("back(-1)", x.back(-1), -1);
        Checks.due("back(2), empty", x.back(2), -1);
        x.open(0);
        x.open(3);
        x.day();
        x.wind();
        x.hinge(1);
        x.off(2);
        x.undo();
        Checks.due("image(2)", x.image(2), 2);
        Checks.due("no act", x.about(8), 5);
        Checks.due("redo stays", x.about(9), 1);
        x.shut(0);
        x.shut(3);
        x.off(3);
        x.hinge(1);
        x.wind();
        x.day();
        x.open(0);
        Checks.due("an empty box does nothing", x.back(0), -1);
        Checks.due("acts are kept", x.about(8), 12);
        Checks.due("back(2)", x.back(2), 2);
        Checks.due("open", x.about(3), 9);
        Checks.due("off", x.about(4), 0);
        Checks.due("stock", x.about(5), 46);
        Checks.due("day", x.about(6), 1);
        Checks.due("seed", x.about(7), 756);
        Checks.due("hinge", x.door(1, 3), 0);
        Checks.due("times", x.sum(0), 2);
        Checks.due("no acts", x.about(8), 0);
        Checks.due("undo()", x.undo(), false);
        Checks.due("redo()", x.redo(), false);
        x.shut(0);
        Checks.due("gone on from again", x.back(2), 2);
        Checks.due("another one into the box", x.image(1), 2);
        x.shut(0);
        Checks.due("over the old one", x.image(1), 1);
        Checks.due("back(1)", x.back(1), 1);
    }

    private static void about() {
        LaneDoors x = Checks.town(TOWN + "lane m long 2 wide 2;corner m 0 with l 0;");
        x.open(0);
        x.off(2);
        x.day();
        x.wind();
        x.undo();
        x.heard(0, 1);
        x.later(3);
        x.orders(2 + 8);
        x.feed(0, 0, 0, 0, 0);
        int[] due = {5, 2, 1, 1, 4, 48, 1, 5, 3, 1, 1, 3, 20, 1, 0};
        for (int what = 0; what < due.length; what++) {
            Checks.due("about(" + what + ")", x.about(what), due[what]);
        }
        x.orders(8);
        Checks.due("about(14)", x.about(14), 1);
        Checks.due("about(15)", x.about(15), -1);
        Checks.due("about(-1)", x.about(-1), -1);
        Checks.due("NONE", LaneDoors.NONE, -1);
    }
}
