/** Promises 1 to 5: the tape, the town's text and its faults. */
public final class TownTextTest {
    private static final String LANE = "lane l long 8 wide 3;";

    public static void main(String[] args) {
        newObject();
        tape();
        townTakesTheTape();
        faultKeepsAll();
        tokens();
        lanes();
        doors();
        corners();
        numbersOnce();
        formulas();
        Checks.finish();
    }

    private static void newObject() {
        LaneDoors x = new LaneDoors();
        for (int what = 0; what <= 14; what++) {
            Checks.due("about(" + what + ") of a new one", x.about(what), 0);
        }
        Checks.due("fault(0) of a new one", x.fault(0), 0);
        Checks.due("fault(1) of a new one", x.fault(1), -1);
        Checks.due("fault(2)", x.fault(2), -1);
        Checks.due("fault(-1)", x.fault(-1), -1);
        Checks.due("town() of no bytes", x.town(), 0);
        Checks.due("undo() of a new one", x.undo(), false);
        Checks.due("redo() of a new one", x.redo(), false);
    }

    private static void tape() {
        LaneDoors x = new LaneDoors();
        for (int i = 1; i <= 80; i++) {
            Checks.due("feed " + i, x.feed(0x20202020, 0x20202020, 0x20202020, 0x20202020, 0x20202020), 20 * i);
        }
        Checks.due("feed above 1,600", x.feed(0, 0, 0, 0, 0), -1);
        Checks.due("about(12)", x.about(12), 1600);
        Checks.due("end above", x.end(1601), -1);
        Checks.due("end below 0", x.end(-1), -1);
        Checks.due("end of all", x.end(1600), 1600);
        Checks.due("end", x.end(1581), 1581);
        Checks.due("feed that would be 1,601", x.feed(0, 0, 0, 0, 0), -1);
        Checks.due("end", x.end(1580), 1580);
        Checks.due("feed to 1,600", x.feed(0x20202020, 0x20202020, 0x0a0a0a0a, 0x20202020, 0x20202020), 1600);
        Checks.due("town of blanks", x.town(), 0);
        Checks.due("tape is empty", x.about(12), 0);
        Checks.due("end beyond the empty tape", x.end(1), -1);
        // The highest byte of each number comes first.
        x.feed(0x6f696c20, 0x313b2020, 0x20202020, 0x20202020, 0x20202021);
        Checks.due("town with a sign at the end", x.town(), -1);
        Checks.due("its fault", x.fault(0), 1);
        Checks.due("its place", x.fault(1), 19);
        x.end(19);
        Checks.due("town without it", x.town(), 0);
        Checks.due("units", x.about(13), 1);
    }

    private static void townTakesTheTape() {
        LaneDoors x = Checks.town(LANE + "door a in l at 0 broad 2 left north;stock 7;draw 4;oil 1;");
        x.later(5);
        x.open(0);
        x.day();
        x.wind();
        x.undo();
        x.image(1);
        Checks.due("a tale needs two", x.heard(0, 1), -1);
        x.orders(0);
        x.far(0, 0, 1);
        Checks.due("something lies there", x.about(14), 1);
        Checks.feed(x, "lane m long 3 wide 2;door p in m at 1 broad 1 right south open;door q in m at 0 broad 1 left north;draw 12;");
        Checks.due("town()", x.town(), 2);
        int[] due = {2, 1, 0, 1, 0, 0, 0, 12, 0, 0, 0, 5, 0, 0, 0};
        for (int what = 0; what < due.length; what++) {
            Checks.due("about(" + what + ") behind town()", x.about(what), due[what]);
        }
        Checks.due("boxes are empty", x.back(1), -1);
        x.heard(0, 1);
        x.town();
        Checks.due("an empty tape is a town", x.about(0), 0);
        Checks.due("nothing is heard then", x.about(10), 0);
        Checks.due("the time stays", x.about(11), 5);
    }

    private static void faultKeepsAll() {
        LaneDoors x = Checks.town(LANE + "door a in l at 0 broad 2 left north;door b in l at 3 broad 2 left north;stock 7;oil 1;");
        x.open(0);
        x.open(1);
        x.undo();
        x.heard(0, 1);
        x.image(0);
        x.far(0, 0, 1);
        Checks.feed(x, "lane");
        int[] due = {2, 1, 0, 1, 0, 6, 0, 0, 1, 1, 1, 0, 4, 1, 1};
        Checks.due("town() with a fault", x.town(), -1);
        for (int what = 0; what < due.length; what++) {
            Checks.due("about(" + what + ") behind a fault", x.about(what), due[what]);
        }
        Checks.due("fault(0)", x.fault(0), 2);
        Checks.due("fault(1)", x.fault(1), 4);
        Checks.due("the box is kept", x.back(0), 1);
        x.end(0);
        Checks.due("town() at last", x.town(), 0);
        Checks.due("fault(0) is gone", x.fault(0), 0);
        Checks.due("fault(1) is gone", x.fault(1), -1);
    }

    private static void tokens() {
        Checks.fine("lane abcdefgh long 0003 wide 2;", 0);
        Checks.fine("lane zaz long 9 wide 1;lane az long 1 wide 1;lane za long 1 wide 1;", 0);
        Checks.fault(1, "lane a^{ long 3 wide 2;");
        Checks.fault(1, "lane a^` long 3 wide 2;");
        Checks.fine("\n lane a long3 wide8;lane\nb\nlong 3 wide 8 ;\n", 0);
        Checks.fault(1, "lane ^abcdefghi long 3 wide 2;");
        Checks.fault(1, "lane a long ^00003 wide 2;");
        Checks.fault(1, "lane a long ^3wide 2;");
        Checks.fault(1, "lane a long 3 wide 2^,");
        Checks.fault(1, "^\tlane a long 3 wide 2;");
        Checks.fault(1, "lane a^A long 3 wide 2;");
        Checks.fault(1, "lane a ^\u00e9");
        Checks.fault(1, "^\0");
        Checks.fault(2, "^;");
        Checks.fault(2, "^7");
        Checks.fault(2, "^lanes a long 3 wide 2;");
        Checks.fault(2, "lane a long^");
        Checks.fault(2, "lane a long 3 wide 2   ^");
        Checks.fault(2, "lane a long 3 wide 2;^a");
        for (String word : ("lane long wide door in at broad left right north south loose tied open corner with "
                + "oil stock draw or and not times day place").split(" ")) {
            Checks.fault(2, "lane ^" + word + " long 3 wide 2;");
            Checks.fine("lane x" + word.substring(0, 2) + " long 3 wide 2;", 0);
        }
    }

    private static void lanes() {
        Checks.fine("lane a long 1 wide 1;lane b long 16 wide 8;lane c long 2 wide 2;lane d long 2 wide 2;", 0);
        Checks.fault(4, "lane a long ^0 wide 1;");
        Checks.fault(4, "lane a long ^17 wide 1;");
        Checks.fault(4, "lane a long 1 wide ^0;");
        Checks.fault(4, "lane a long 1 wide ^9;");
        Checks.fault(3, "lane a long 1 wide 1;lane ^a long 1 wide 1;");
        Checks.fault(2, "lane a long 1 wide 1;lane b long 1 wide 1;lane c long 1 wide 1;lane d long 1 wide 1;^lane a");
        Checks.fault(2, "lane a long 1 ^long");
        Checks.fault(2, "lane ^5 long 1 wide 1;");
        Checks.fault(2, "lane a long 1 wide 1 ^lane");
    }

    private static void doors() {
        String door = LANE + "door a in l at 2 broad 2 left north;";
        Checks.fine(door + "door l in l at 4 broad 4 right north loose tied open;door b in l at 2 broad 2 left south;", 3);
        Checks.fault(2, LANE + "door a ^l");
        Checks.fault(5, LANE + "door a in ^m at 0 broad 1 left north;");
        Checks.fault(5, "door a in ^l at 0 broad 1 left north;" + LANE);
        Checks.fault(2, LANE + "door a in ^at at 0 broad 1 left north;");
        Checks.fault(4, LANE + "door a in l at ^8 broad 1 left north;");
        Checks.fault(4, LANE + "door a in l at 0 broad ^0 left north;");
        Checks.fault(4, LANE + "door a in l at 0 broad ^5 left north;");
        Checks.fault(4, LANE + "door a in l at 6 broad ^3 left north;");
        Checks.fine(LANE + "door a in l at 6 broad 2 left north;", 1);
        Checks.fault(2, LANE + "door a in l at 6 broad 2 ^north left;");
        Checks.fault(2, LANE + "door a in l at 6 broad 2 left ^left;");
        Checks.fault(2, LANE + "door a in l at 6 broad 2 left north tied ^loose;");
        Checks.fault(2, LANE + "door a in l at 6 broad 2 left north open ^tied;");
        Checks.fault(2, LANE + "door a in l at 6 broad 2 left north open ^open;");
        Checks.fault(3, door + "door ^a in l at 5 broad 1 left north;");
        Checks.fault(3, door + "door b in l at 3 broad 1 left ^north;");
        Checks.fault(3, door + "door b in l at 0 broad 3 right ^north open;");
        Checks.fine(door + "door b in l at 0 broad 2 right north open;", 2);
        StringBuilder ten = new StringBuilder("lane l long 16 wide 3;");
        for (int i = 0; i < 10; i++) {
            ten.append("door ").append((char) ('a' + i)).append(" in l at ").append(i).append(" broad 1 left north;");
        }
        Checks.fine(ten.toString(), 10);
        Checks.fault(2, ten + "^door z in l at 12 broad 1 left north;");
    }

    private static void corners() {
        String two = "lane l long 8 wide 3;lane m long 2 wide 1;";
        Checks.fine(two + "corner l 7 with m 1;corner m 0 with l 0;corner m 0 with l 0;", 0);
        Checks.fault(5, two + "corner ^k 7 with m 1;");
        Checks.fault(4, two + "corner l ^8 with m 1;");
        Checks.fault(5, two + "corner l 7 with ^k 1;");
        Checks.fault(3, two + "corner l 7 with ^l 9;");
        Checks.fault(4, two + "corner l 7 with m ^2;");
        Checks.fault(2, two + "corner l 7 with ^with 1;");
        Checks.fault(2, two + "corner l 7 ^m 1;");
        String six = two;
        for (int i = 0; i < 6; i++) {
            six += "corner l " + i + " with m 0;";
        }
        Checks.fine(six, 0);
        Checks.fault(2, six + "^corner l 7 with m 1;");
    }

    private static void numbersOnce() {
        Checks.fine("stock 0;draw 0;", 0);
        LaneDoors x = Checks.town("draw 999;stock 998;");
        Checks.due("stock", x.about(5), 998);
        Checks.due("seed", x.about(7), 999);
        Checks.fault(4, "stock ^1000;");
        Checks.fault(4, "draw ^1000;");
        Checks.fault(2, "stock 1;^stock 2;");
        Checks.fault(2, "draw 1;^draw 2;");
        Checks.fault(2, "oil 1;^oil 2;");
        Checks.fault(2, "stock ^;");
        Checks.fault(2, "stock 1 ^2;");
    }

    private static void formulas() {
        Checks.fault(2, "oil ^;");
        Checks.fault(2, "oil ^stock;");
        Checks.fault(2, "oil 1 ^1;");
        Checks.fault(2, "oil 1 + ^not 1;");
        Checks.fault(2, "oil 1 < 2 ^< 3;");
        Checks.fault(2, "oil (1 + 2^;");
        Checks.fault(2, "oil 1^);");
        Checks.fault(2, "oil ^- 1;");
        Checks.fault(2, "oil ^x;");
        Checks.fault(2, "oil 1 +^");
        Checks.fine("oil not not not not not not not 1;", 0);
        Checks.fault(2, "oil not not not not not not not ^not 1;");
        Checks.fine("oil (((((((1)))))));", 0);
        Checks.fault(2, "oil (((((((^(1))))))));");
        Checks.fault(2, "oil not (not (not (not ^(1))));");
        Checks.fine("oil not (not (not (not 1)));", 0);
        Checks.fault(2, "oil ((((not not not ^not 1))));");
        String thirty = "oil 1" + "+1".repeat(29);
        Checks.fine(thirty + ";", 0);
        Checks.fault(2, thirty + "+^day;");
        Checks.fault(2, thirty + "+^(day);");
        // A unit ( e ) is a unit, too.
        Checks.fine("oil (1)" + "+1".repeat(28) + ";", 0);
        Checks.fault(2, "oil (1)" + "+1".repeat(28) + "+^1;");
        Checks.due("units", Checks.town("oil (1+(2))*broad;").about(13), 5);
    }
}
