/** Terms 3 and 4 and promises 42 to 52, sentence by sentence: the edges of races, tales, images and counts. */
public final class TaleEdgesTest {
    // a and b hinder each other, c hinders d, e is tied and shut.
    private static final String TOWN = "lane l long 8 wide 3;door a in l at 0 broad 2 left north;door b in l at 0 broad 2 right south;"
            + "door c in l at 3 broad 1 left south loose;door d in l at 3 broad 3 right north;"
            + "door e in l at 6 broad 2 left north tied;stock 50;oil 2;draw 5;";
    private static final int[] NO_SETS = {32, 33, 64, 1023, 1024, -1, -2, 1 << 30, Integer.MIN_VALUE, Integer.MAX_VALUE};

    public static void main(String[] args) {
        race();
        lies();
        heard();
        untell();
        later();
        asKnown();
        tales();
        firsts();
        ahead();
        image();
        back();
        about();
        Checks.finish();
    }

    private static String ten() {
        StringBuilder text = new StringBuilder("lane l long 16 wide 8;");
        for (int i = 0; i < 10; i++) {
            text.append("door ").append((char) ('a' + i)).append(" in l at ").append(i).append(" broad 1 left north;");
        }
        return text.toString();
    }

    private static void race() {
        Checks.says(0, "by turns, the first one first, each opens one of his that CAN; who has none loses: whether the first one can win, by which DOOR (the first by which he does)");
        LaneDoors x = Checks.town(TOWN);
        Checks.still(x, "the first has none", y -> y.race(0, 4), 0);
        Checks.still(x, "nobody has any", y -> y.race(0, 0), 0);
        Checks.still(x, "the second has none", y -> y.race(4, 0), 12);
        Checks.still(x, "the first by which he wins", y -> y.race(5, 0), 10);
        // c ahead of d would hinder his own d, so that he had one move only.
        Checks.still(x, "not the very first by number", y -> y.race(12, 1), 13);
        // By c at once the other one has none left.
        Checks.still(x, "one against one that it hinders", y -> y.race(4, 8), 12);
        Checks.still(x, "one against one that it does not hinder", y -> y.race(8, 4), 0);
        Checks.still(x, "a tied one is none of his that can", y -> y.race(16, 4), 0);
        LaneDoors ten = Checks.town(ten());
        for (int mine = 0; mine <= 10; mine++) {
            int set = (1 << mine) - 1;
            Checks.due(mine + " against " + (10 - mine), ten.race(set, 1023 - set), mine > 5 ? 10 : 0);
        }
        Checks.due("the last door", ten.race(512, 0), 19);
        Checks.says(42, "RACE: 10 + the DOOR if the first one wins, else 0; NONE if one can't be (sets with one in both, too).");
        Checks.none(x, "one in both", y -> y.race(1, 1));
        Checks.none(x, "one in both among others", y -> y.race(6, 12));
        Checks.none(x, "a tied one in both", y -> y.race(16, 16));
        for (int bad : NO_SETS) {
            Checks.none(x, "race(" + bad + ", 0)", y -> y.race(bad, 0));
            Checks.none(x, "race(0, " + bad + ")", y -> y.race(0, bad));
        }
        Checks.none(ten, "race(1024, 0) of ten", y -> y.race(1024, 0));
        Checks.none(ten, "race(0, 1024) of ten", y -> y.race(0, 1024));
    }

    private static void lies() {
        Checks.says(43, "The i-th number of what lies there; NONE if there is none such.");
        LaneDoors x = Checks.town(ten());
        Checks.none(x, "lies(0) of none", y -> y.lies(0));
        x.orders(1023);
        Checks.still(x, "lies(0)", y -> y.lies(0), 0);
        Checks.still(x, "lies(9)", y -> y.lies(9), 9);
        Checks.none(x, "lies(10)", y -> y.lies(10));
        for (int bad : Checks.FAR_OUT) {
            Checks.none(x, "lies(" + bad + ")", y -> y.lies(bad));
        }
        x.orders(6);
        Checks.due("lies(1), of fewer", x.lies(1), 2);
        Checks.none(x, "lies(2), of those before", y -> y.lies(2));
    }

    private static void heard() {
        Checks.says(0, "HEARD, 30 at most, is TOLD at a TIME (0 at first, goes on), UNTOLD at a later one or the same");
        LaneDoors x = Checks.town(TOWN);
        Checks.due("the time at first", x.about(11), 0);
        for (int i = 0; i < 30; i++) {
            Checks.due("heard", x.heard(i % 5, (i + 1) % 5), i);
            Checks.due("how many", x.about(10), i + 1);
        }
        Checks.says(44, "NONE, doing nothing, if one can't be (the same one twice, too), or there are 30");
        Checks.none(x, "the 31st", y -> y.heard(0, 1));
        x.untell(3);
        Checks.none(x, "the 31st, one untold", y -> y.heard(0, 1));
        Checks.feed(x, TOWN);
        x.town();
        for (int d = 0; d < 5; d++) {
            int same = d;
            Checks.none(x, "heard of one twice", y -> y.heard(same, same));
        }
        Checks.none(x, "heard(0, 5)", y -> y.heard(0, 5));
        Checks.none(x, "heard(5, 0)", y -> y.heard(5, 0));
        for (int bad : Checks.FAR_OUT) {
            Checks.none(x, "heard(0, " + bad + ")", y -> y.heard(0, bad));
            Checks.none(x, "heard(" + bad + ", 0)", y -> y.heard(bad, 0));
            Checks.none(x, "heard(" + bad + ", " + bad + ")", y -> y.heard(bad, bad));
        }
        Checks.due("the first one of the new town", x.heard(4, 0), 0);
        Checks.due("the same once more", x.heard(4, 0), 1);
        Checks.due("the other way round", x.heard(0, 4), 2);
        Checks.due("no act", x.about(8), 0);
    }

    private static void untell() {
        Checks.says(45, "It is UNTOLD: true; false if it is so already, or there is none such.");
        LaneDoors x = Checks.town(TOWN);
        Checks.refused(x, "untell(0) of none", y -> y.untell(0));
        x.heard(0, 1);
        x.heard(1, 2);
        Checks.due("untell(1)", x.untell(1), true);
        Checks.refused(x, "untell(1) again", y -> y.untell(1));
        x.later(9);
        Checks.refused(x, "untell(1) later", y -> y.untell(1));
        Checks.due("untell(0) later", x.untell(0), true);
        Checks.refused(x, "untell(2)", y -> y.untell(2));
        for (int bad : Checks.FAR_OUT) {
            Checks.refused(x, "untell(" + bad + ")", y -> y.untell(bad));
        }
        Checks.due("its number is not given again", x.heard(0, 1), 2);
        LaneDoors full = Checks.town(TOWN);
        for (int i = 0; i < 30; i++) {
            full.heard(0, 1);
        }
        Checks.due("untell(29)", full.untell(29), true);
        Checks.refused(full, "untell(30)", y -> y.untell(30));
    }

    private static void later() {
        Checks.says(46, "So much later (0 .. 1000): the TIME; NONE, doing nothing, for another number, or if it would be above 100,000.");
        LaneDoors x = Checks.town(TOWN);
        Checks.due("later(0)", x.later(0), 0);
        Checks.due("later(1)", x.later(1), 1);
        Checks.due("later(1000)", x.later(1000), 1001);
        for (int bad : new int[] {-1, 1001, 100000, Integer.MIN_VALUE, Integer.MAX_VALUE}) {
            Checks.none(x, "later(" + bad + ")", y -> y.later(bad));
        }
        for (int i = 0; i < 98; i++) {
            x.later(1000);
        }
        Checks.due("the time", x.about(11), 99001);
        Checks.none(x, "later(1000) to 100,001", y -> y.later(1000));
        Checks.due("later(999) to 100,000", x.later(999), 100000);
        Checks.none(x, "later(1) to 100,001", y -> y.later(1));
        Checks.due("later(0) at the last time", x.later(0), 100000);
        Checks.due("heard at the last time", x.heard(2, 0), 0);
        Checks.due("as known then", x.tales(5, 100000), 1);
        Checks.due("as known before", x.tales(5, 99999), 2);
    }

    private static void asKnown() {
        Checks.says(0, "As known at k that counts that was TOLD at k or before, not UNTOLD at k or before.");
        LaneDoors x = Checks.town(TOWN);
        x.later(10);
        x.heard(2, 0);
        x.later(10);
        x.untell(0);
        // c ahead of a counts from 10 on, and up to 19.
        int[][] due = {{Integer.MIN_VALUE, 2}, {-1, 2}, {0, 2}, {9, 2}, {10, 1}, {11, 1}, {19, 1}, {20, 2}, {21, 2},
            {Integer.MAX_VALUE, 2}};
        for (int[] known : due) {
            Checks.due("tales as known at " + known[0], x.tales(5, known[0]), known[1]);
            Checks.due("firsts as known at " + known[0], x.firsts(5, known[0]), known[1] == 1 ? 4 : 5);
            Checks.due("ahead as known at " + known[0], x.ahead(5, 0, 2, known[0]), known[1] - 1);
        }
        x.heard(0, 2);
        x.untell(1);
        Checks.due("told and untold at one time", x.tales(5, 20), 2);
        Checks.due("and a time before", x.tales(5, 19), 1);
        x.heard(0, 2);
        Checks.due("told now", x.tales(5, 20), 1);
        Checks.due("known at all later times", x.tales(5, Integer.MAX_VALUE), 1);
        LaneDoors first = Checks.town(TOWN);
        first.heard(2, 0);
        Checks.due("told at 0, known at 0", first.tales(5, 0), 1);
        Checks.due("told at 0, not known at -1", first.tales(5, -1), 2);
    }

    private static void tales() {
        Checks.says(0, "TALES of a set of DOORS (not tied, not OFF): orders in which they can be opened from a town where nothing is open, as all is HEARD that counts of two of them: how many; the first one");
        LaneDoors x = Checks.town(TOWN);
        Checks.due("tales of d, then c", x.tales(12, 0), 1);
        Checks.lie("tales of d, then c", x, 3, 2);
        x.open(2);
        Checks.due("tales with one that is open", x.tales(13, 0), 3);
        Checks.lie("tales with one that is open", x, 0, 3, 2);
        x.open(0);
        Checks.due("tales of one that an open one hinders", x.tales(2, 0), 1);
        Checks.due("firsts of one that an open one hinders", x.firsts(10, 0), 2 + 8);
        Checks.due("ahead with one that an open one hinders", x.ahead(10, 1, 3, 0), 1);
        x.shut(0);
        // Of a and one that is not in the set nothing counts, nor of a tied one.
        x.heard(1, 0);
        x.heard(4, 0);
        Checks.due("heard of others", x.tales(13, 0), 3);
        x.heard(2, 0);
        Checks.due("heard of two of them", x.tales(13, 0), 1);
        Checks.lie("heard of two of them", x, 3, 2, 0);
        LaneDoors ten = Checks.town(ten());
        Checks.due("tales of ten", ten.tales(1023, 0), 3628800);
        LaneDoors both = Checks.town(ten());
        both.heard(8, 0);
        both.heard(9, 0);
        Checks.due("two heard ahead of one", both.tales(769, 0), 2);
        Checks.lie("two heard ahead of one", both, 8, 9, 0);
        ten.tales(1023, 0);
        Checks.lie("tales of ten", ten, 0, 1, 2, 3, 4, 5, 6, 7, 8, 9);
        for (int d = 9; d > 0; d--) {
            ten.heard(d, d - 1);
        }
        Checks.due("tales of ten, all told", ten.tales(1023, 0), 1);
        Checks.lie("tales of ten, all told", ten, 9, 8, 7, 6, 5, 4, 3, 2, 1, 0);
        Checks.says(47, "TALES: how many (1 of none); NONE if one can't be. The first lies there then (behind 0, NONE: nothing).");
        x.far(0, 0, 1);
        Checks.due("tales(0, 0)", x.tales(0, 0), 1);
        Checks.lie("tales(0, 0)", x);
        Checks.due("tales(0, 0) of no doors", new LaneDoors().tales(0, 0), 1);
        x.far(0, 0, 1);
        Checks.due("tales of two against each other", x.tales(3, 0), 0);
        Checks.lie("tales of two against each other", x);
        x.heard(0, 2);
        x.far(0, 0, 1);
        Checks.due("tales of two, heard both ways", x.tales(5, 0), 0);
        Checks.lie("tales of two, heard both ways", x);
        Checks.noneAndCleared(x, "tales of a tied one", y -> y.tales(16, 0));
        Checks.noneAndCleared(x, "tales with a tied one", y -> y.tales(17, 0));
        for (int bad : NO_SETS) {
            Checks.noneAndCleared(x, "tales(" + bad + ", 0)", y -> y.tales(bad, 0));
        }
        x.off(0);
        Checks.noneAndCleared(x, "tales of one that is off", y -> y.tales(1, 0));
        Checks.noneAndCleared(x, "tales with one that is off", y -> y.tales(5, 0));
        Checks.due("tales of the others", x.tales(12, 0), 1);
        Checks.noneAndCleared(ten, "tales(1024, 0) of ten", y -> y.tales(1024, 0));
    }

    private static void firsts() {
        Checks.says(0, "FIRSTS: who comes first in some");
        LaneDoors x = Checks.town(TOWN);
        Checks.still(x, "firsts of a, d, c", y -> y.firsts(13, 0), 1 + 8);
        Checks.due("firsts of ten", Checks.town(ten()).firsts(1023, 0), 1023);
        // a could be opened first, but then b could not at all: it is first in none.
        Checks.still(x, "firsts of no tale", y -> y.firsts(3, 0), 0);
        Checks.says(48, "FIRSTS, as bits; NONE likewise.");
        Checks.still(x, "firsts of none", y -> y.firsts(0, 0), 0);
        Checks.none(x, "firsts of a tied one", y -> y.firsts(16, 0));
        Checks.none(x, "firsts with a tied one", y -> y.firsts(17, 0));
        for (int bad : NO_SETS) {
            Checks.none(x, "firsts(" + bad + ", 0)", y -> y.firsts(bad, 0));
        }
        x.off(0);
        Checks.none(x, "firsts with one that is off", y -> y.firsts(13, 0));
    }

    private static void ahead() {
        Checks.says(0, "AHEAD: those TALES in which one comes ahead of another one.");
        LaneDoors x = Checks.town(TOWN);
        Checks.still(x, "a ahead of c", y -> y.ahead(13, 0, 2, 0), 2);
        Checks.still(x, "c ahead of a", y -> y.ahead(13, 2, 0, 0), 1);
        Checks.still(x, "c ahead of d", y -> y.ahead(13, 2, 3, 0), 0);
        Checks.due("the last of ten ahead of the first", Checks.town(ten()).ahead(1023, 9, 0, 0), 1814400);
        Checks.says(49, "AHEAD (two unlike DOORS of the set): how many; NONE if one can't be.");
        Checks.none(x, "ahead of itself", y -> y.ahead(13, 2, 2, 0));
        Checks.none(x, "the first not of the set", y -> y.ahead(12, 0, 2, 0));
        Checks.none(x, "the second not of the set", y -> y.ahead(12, 2, 0, 0));
        Checks.none(x, "of an empty set", y -> y.ahead(0, 0, 2, 0));
        Checks.none(x, "with a tied one", y -> y.ahead(29, 0, 2, 0));
        Checks.none(x, "of a tied one", y -> y.ahead(29, 4, 2, 0));
        for (int bad : NO_SETS) {
            Checks.none(x, "ahead(" + bad + ", 0, 2, 0)", y -> y.ahead(bad, 0, 2, 0));
        }
        for (int bad : Checks.FAR_OUT) {
            Checks.none(x, "ahead(13, " + bad + ", 2, 0)", y -> y.ahead(13, bad, 2, 0));
            Checks.none(x, "ahead(13, 2, " + bad + ", 0)", y -> y.ahead(13, 2, bad, 0));
        }
        Checks.due("ahead of no tale", x.ahead(3, 0, 1, 0), 0);
        x.off(0);
        Checks.none(x, "with one that is off", y -> y.ahead(13, 3, 2, 0));
    }

    private static void image() {
        Checks.says(50, "What is open, OFF, HINGES, times, stock, day, SEED are kept in a BOX 0 .. 2: how many are open; NONE if there is none such.");
        LaneDoors x = Checks.town(TOWN);
        for (int box = 0; box <= 2; box++) {
            int told = box;
            Checks.still(x, "image(" + box + ")", y -> y.image(told), box);
            x.open(box == 0 ? 0 : 3);
        }
        Checks.none(x, "image(3)", y -> y.image(3));
        for (int bad : Checks.FAR_OUT) {
            Checks.none(x, "image(" + bad + ")", y -> y.image(bad));
        }
        Checks.due("image(0) of no doors", new LaneDoors().image(0), 0);
        Checks.due("the first box", x.back(0), 0);
        Checks.due("the second box", x.back(1), 1);
        Checks.due("the third box", x.back(2), 2);
    }

    private static void back() {
        Checks.says(51, "All is as it was kept (no ACTS are kept then): how many are open");
        LaneDoors x = Checks.town(TOWN);
        x.open(0);
        x.hinge(3);
        x.off(1);
        x.day();
        x.wind();
        x.undo();
        Checks.due("image(1)", x.image(1), 1);
        x.redo();
        x.shut(0);
        x.off(0);
        x.hinge(3);
        x.day();
        x.open(3);
        x.heard(0, 1);
        x.later(7);
        x.orders(0);
        x.far(0, 0, 1);
        Checks.due("back(1)", x.back(1), 1);
        int[] due = {5, 1, 0, 1, 2, 48, 1, 5, 0, 0, 1, 7, 0, 1, 1};
        for (int what = 0; what < due.length; what++) {
            Checks.due("about(" + what + ") behind back(1)", x.about(what), due[what]);
        }
        Checks.due("a hinge", x.door(3, 3), 3);
        Checks.due("times of a", x.door(0, 9), 1);
        Checks.due("times of c", x.door(2, 9), 0);
        Checks.due("times of d", x.door(3, 9), 0);
        Checks.refused(x, "undo()", LaneDoors::undo);
        Checks.refused(x, "redo()", LaneDoors::redo);
        x.shut(0);
        Checks.due("back(1) a second time", x.back(1), 1);
        Checks.due("about(8)", x.about(8), 0);
        Checks.says(51, "NONE, doing nothing, if nothing was");
        x.day();
        x.day();
        x.undo();
        Checks.none(x, "back(0)", y -> y.back(0));
        Checks.none(x, "back(2)", y -> y.back(2));
        Checks.none(x, "back(3)", y -> y.back(3));
        for (int bad : Checks.FAR_OUT) {
            Checks.none(x, "back(" + bad + ")", y -> y.back(bad));
        }
        Checks.feed(x, TOWN);
        x.town();
        Checks.none(x, "back(1) in another town", y -> y.back(1));
    }

    private static void about() {
        Checks.says(52, "8: ACTS that can be undone, 9: redone, 10: what is HEARD, 11: the TIME, 12: bytes on the TAPE, 13: units, 14: numbers that lie there. NONE for another what.");
        LaneDoors x = Checks.town(TOWN + "lane m long 2 wide 2;corner m 0 with l 0;");
        x.open(0);
        x.off(2);
        x.day();
        x.wind();
        x.day();
        x.undo();
        x.heard(0, 1);
        x.later(3);
        x.orders(8);
        x.feed(0, 0, 0, 0, 0);
        int[] due = {5, 2, 1, 1, 4, 48, 1, 756, 4, 1, 1, 3, 20, 1, 1};
        for (int what = 0; what < due.length; what++) {
            int asked = what;
            Checks.still(x, "about(" + what + ")", y -> y.about(asked), due[what]);
        }
        Checks.none(x, "about(15)", y -> y.about(15));
        for (int bad : Checks.FAR_OUT) {
            Checks.none(x, "about(" + bad + ")", y -> y.about(bad));
        }
        Checks.due("NONE", LaneDoors.NONE, -1);
    }
}
