/** Terms 1 and promises 1 to 5, sentence by sentence: the edges of what a town's text may be. */
public final class TownEdgesTest {
    private static final String LANE = "lane l long 8 wide 3;";
    private static final String TWO = LANE + "lane m long 2 wide 1;";
    private static final String OWN_WORDS = "lane long wide door in at broad left right north south loose tied open "
            + "corner with oil stock draw or and not times day place";

    public static void main(String[] args) {
        textLength();
        tokens();
        names();
        lanes();
        doors();
        corners();
        onceEach();
        units();
        missing();
        depth();
        faultPlaces();
        faultKinds();
        newObject();
        feed();
        end();
        town();
        townWithFault();
        fault();
        Checks.finish();
    }

    private static void textLength() {
        Checks.says(0, "A TOWN is a text of at most 1,600 bytes (empty at first): town = {line}.");
        String line = LANE + "door a in l at 0 broad 1 left north;";
        Checks.fine(" ".repeat(1600 - line.length()) + line, 1);
        Checks.fault(2, " ".repeat(1600 - line.length()) + line.replace(';', ' ').replace("wide 3 ", "wide 3;") + "^");
        Checks.fine("", 0);
        Checks.fine(" \n ".repeat(533), 0);
        Checks.due("doors at first", new LaneDoors().about(0), 0);
        Checks.due("lanes at first", new LaneDoors().about(1), 0);
    }

    private static void tokens() {
        Checks.says(0, "words (a .. z, 8 at most)");
        Checks.fine("lane abcdefgh long 1 wide 1;", 0);
        Checks.fine("lane a long 1 wide 1;lane z long 1 wide 1;", 0);
        Checks.fault(1, "lane ^abcdefghi long 1 wide 1;");
        Checks.fault(1, "^lanelanelane a");
        Checks.fault(1, "lane ^` long 1 wide 1;");
        Checks.fault(1, "lane ^{ long 1 wide 1;");
        Checks.fault(1, "lane ^A long 1 wide 1;");
        Checks.fault(1, "lane ^Z long 1 wide 1;");
        // Words of 8 letters that part in their first or their last one are not the same.
        Checks.fine("lane aaaaaaaa long 1 wide 1;lane aaaaaaab long 1 wide 1;lane baaaaaaa long 1 wide 1;lane aaaaaaa long 1 wide 1;", 0);
        Checks.says(0, "N (1 to 4 digits)");
        Checks.fine("lane a long 1 wide 8;stock 0999;", 0);
        Checks.fine("lane a long 0016 wide 0008;", 0);
        Checks.fault(1, "stock ^00001;");
        Checks.fault(1, "stock ^99999999999999999999;");
        Checks.fine("oil 9999;", 0);
        Checks.fault(1, "oil ^10000;");
        Checks.fault(1, "stock ^:;");
        Checks.says(0, "signs ; ( ) < > = + - * / %");
        Checks.fine("oil(1)+2-3*4/5%6<7 or 8>9 and 1=2;", 0);
        for (char c : "!\"#$&',.:?@[\\]^_`{|}~".toCharArray()) {
            Checks.due("town() with " + c, faultOf("oil 1 " + c + " 1;"), 106);
        }
        for (int c = 0; c < 256; c++) {
            boolean isLetter = c >= 'a' && c <= 'z';
            boolean isDigit = c >= '0' && c <= '9';
            boolean isBlank = c == 32 || c == 10;
            boolean isToken = isLetter || isDigit || ";()<>=+-*/%".indexOf(c) >= 0;
            Checks.due("a town of the byte " + c, faultOf("" + (char) c), isBlank ? 0 : isToken ? 200 : 100);
        }
        Checks.says(0, "blanks (32, 10) part them or not");
        Checks.fine("lane\na\nlong\n1\nwide\n1\n;\n", 0);
        Checks.fine("lane a long1 wide1;lane b long2 wide2;", 0);
        Checks.fault(1, "lane a^\tlong 1 wide 1;");
        Checks.fault(1, "lane a^\rlong 1 wide 1;");
        Checks.fault(1, "lane a^\0long 1 wide 1;");
        Checks.fault(1, "lane a^\u00a0long 1 wide 1;");
        Checks.says(0, "each is as long as can be");
        Checks.fault(2, "^lanea long 1 wide 1;");
        Checks.fine("lane lanea long 11 wide 1;", 0);
        Checks.fault(2, "lane a long 1 ^1 wide 1;");
        Checks.fault(2, "oil 1 ^2;");
        Checks.fault(2, "lane a ^longwide 1;");
        Checks.says(0, "no letter directly behind an N");
        Checks.fault(1, "lane a long ^1wide 1;");
        Checks.fine("lane a long 1 wide 1;", 0);
        Checks.fine("lane a long 1\nwide 1;", 0);
        Checks.fault(1, "oil ^1or 2;");
        Checks.fault(1, "stock 1;draw ^2a");
        Checks.fault(1, "lane a long ^1z");
    }

    /** 100 times the kind of a text's fault, and its place. */
    private static int faultOf(String text) {
        LaneDoors x = new LaneDoors();
        Checks.feed(x, text);
        return x.town() >= 0 ? 0 : 100 * x.fault(0) + x.fault(1);
    }

    private static void names() {
        Checks.says(0, "Words that stand for themselves here are no NAMES.");
        for (String word : OWN_WORDS.split(" ")) {
            Checks.fault(2, "lane ^" + word + " long 1 wide 1;");
            Checks.fault(2, LANE + "door ^" + word + " in l at 0 broad 1 left north;");
            Checks.fault(2, LANE + "door a in ^" + word + " at 0 broad 1 left north;");
            Checks.fault(2, TWO + "corner ^" + word + " 0 with m 0;");
            Checks.fault(2, TWO + "corner l 0 with ^" + word + " 0;");
            String longer = word + "x";
            Checks.fine("lane " + longer + " long 1 wide 1;door " + longer + " in " + longer + " at 0 broad 1 left north;", 1);
        }
        // Words of the grammar and of the document that stand for something else may be names.
        for (String word : "town line both one sum term unit e n name token cart wind hinge".split(" ")) {
            Checks.fine("lane " + word + " long 1 wide 1;", 0);
        }
    }

    private static void lanes() {
        Checks.says(0, "At most 4 LANES (long 1 .. 16, wide 1 .. 8)");
        String four = "lane a long 1 wide 1;lane b long 16 wide 8;lane c long 16 wide 1;lane d long 1 wide 8;";
        Checks.fine(four, 0);
        Checks.due("lanes", Checks.town(four).about(1), 4);
        Checks.due("the last place of the longest lane", Checks.town(four).free(1, 15), 8);
        Checks.fault(2, four + "^lane e long 1 wide 1;");
        Checks.fault(4, "lane a long ^0 wide 1;");
        Checks.fault(4, "lane a long ^17 wide 1;");
        Checks.fault(4, "lane a long ^9999 wide 1;");
        Checks.fault(4, "lane a long 1 wide ^0;");
        Checks.fault(4, "lane a long 1 wide ^9;");
        Checks.fault(4, "lane a long 1 wide ^9999;");
    }

    private static void doors() {
        Checks.says(0, "10 DOORS (in a LANE told ahead, at a place 0 .. its length less 1; broad 1 .. 4, so that it ends within the LANE)");
        StringBuilder ten = new StringBuilder("lane l long 16 wide 3;");
        for (int i = 0; i < 10; i++) {
            ten.append("door ").append((char) ('a' + i)).append(" in l at ").append(i).append(" broad 1 left north;");
        }
        Checks.fine(ten.toString(), 10);
        Checks.fault(2, ten + "^door k in l at 12 broad 1 left north;");
        Checks.fault(2, ten + "^door");
        Checks.fault(5, "door a in ^l at 0 broad 1 left north;" + LANE);
        Checks.fine(LANE + "door a in l at 0 broad 1 left north;", 1);
        Checks.fine(LANE + "door a in l at 7 broad 1 left north;", 1);
        Checks.fault(4, LANE + "door a in l at ^8 broad 1 left north;");
        Checks.fault(4, LANE + "door a in l at ^9999 broad 1 left north;");
        Checks.fault(4, LANE + "door a in l at 0 broad ^0 left north;");
        Checks.fine(LANE + "door a in l at 0 broad 4 left north;", 1);
        Checks.fault(4, LANE + "door a in l at 0 broad ^5 left north;");
        for (int broad = 1; broad <= 4; broad++) {
            Checks.fine(LANE + "door a in l at " + (8 - broad) + " broad " + broad + " right south;", 1);
            String beyond = broad == 1 ? "^8 broad 1" : (9 - broad) + " broad ^" + broad;
            Checks.fault(4, LANE + "door a in l at " + beyond + " right south;");
        }
        Checks.fine("lane l long 1 wide 1;door a in l at 0 broad 1 left north;", 1);
        Checks.fault(4, "lane l long 1 wide 1;door a in l at 0 broad ^2 left north;");
        Checks.fault(4, "lane l long 1 wide 1;door a in l at ^1 broad 1 left north;");
        Checks.says(0, "(left | right) (north | south) [loose] [tied] [open] ;");
        Checks.fault(2, LANE + "door a in l at 0 broad 1 ^north;");
        Checks.fault(2, LANE + "door a in l at 0 broad 1 left ^;");
        Checks.fault(2, LANE + "door a in l at 0 broad 1 left ^right north;");
        Checks.fault(2, LANE + "door a in l at 0 broad 1 left north ^south;");
        Checks.fault(2, LANE + "door a in l at 0 broad 1 left north loose ^loose;");
        Checks.fault(2, LANE + "door a in l at 0 broad 1 left north tied ^tied;");
        Checks.fault(2, LANE + "door a in l at 0 broad 1 left north tied ^loose;");
        Checks.fault(2, LANE + "door a in l at 0 broad 1 left north open ^tied;");
        Checks.fault(2, LANE + "door a in l at 0 broad 1 left north open ^loose;");
        Checks.fine(LANE + "door a in l at 0 broad 1 left north loose open;door b in l at 1 broad 1 left north tied open;"
                + "door c in l at 2 broad 1 left north loose tied;door d in l at 3 broad 1 left north loose tied open;", 4);
        Checks.says(0, "numbered as told, each sort by itself");
        LaneDoors x = Checks.town(LANE + "door b in l at 3 broad 1 left north;lane a long 2 wide 2;door a in a at 1 broad 1 left south;");
        Checks.due("the first door's place", x.door(0, 1), 3);
        Checks.due("the second door's lane", x.door(1, 0), 1);
        Checks.due("the second lane", x.free(1, 1), 2);
    }

    private static void corners() {
        Checks.says(0, "6 CORNERS (a place of a LANE and one of another one, both told ahead)");
        StringBuilder six = new StringBuilder(TWO);
        for (int i = 0; i < 6; i++) {
            six.append("corner l ").append(i).append(" with m 0;");
        }
        Checks.fine(six.toString(), 0);
        Checks.due("corners", Checks.town(six.toString()).about(2), 6);
        Checks.due("the sixth one is gone through", Checks.town(six.toString()).way(0, 5, 1, 0, 1), 1);
        Checks.fault(2, six + "^corner l 7 with m 1;");
        Checks.fine(TWO + "corner l 7 with m 1;", 0);
        Checks.fault(4, TWO + "corner l ^8 with m 1;");
        Checks.fault(4, TWO + "corner l 7 with m ^2;");
        Checks.fault(5, LANE + "corner ^m 0 with l 0;lane m long 2 wide 1;");
        Checks.fault(5, LANE + "corner l 0 with ^m 0;lane m long 2 wide 1;");
    }

    private static void onceEach() {
        Checks.says(0, "oil, stock (0 .. 999; 0), draw (0 .. 999; 0) once each");
        LaneDoors none = Checks.town(LANE);
        Checks.due("stock, not told", none.about(5), 0);
        Checks.due("draw, not told", none.about(7), 0);
        LaneDoors full = Checks.town("stock 999;draw 999;");
        Checks.due("stock", full.about(5), 999);
        Checks.due("draw", full.about(7), 999);
        Checks.fine("stock 0;draw 0;oil 0;", 0);
        Checks.fault(4, "stock ^1000;");
        Checks.fault(4, "draw ^1000;");
        Checks.fault(2, "oil 1;stock 2;^oil 3;");
        Checks.fault(2, "stock 1;draw 2;^stock 1;");
        Checks.fault(2, "draw 1;oil 2;^draw 1;");
    }

    private static void units() {
        Checks.says(0, "60 units in all, 30 in one e");
        String thirty = "oil 1" + "+1".repeat(29);
        Checks.fine(thirty + ";", 0);
        Checks.due("units", Checks.town(thirty + ";").about(13), 30);
        Checks.fault(2, thirty + "+^1;");
        Checks.fault(2, thirty + "*^broad;");
        Checks.fault(2, thirty + " and ^(");
        Checks.fault(2, thirty + " and not ^1;");
        Checks.fault(2, thirty + " and not ^(1);");
        Checks.due("no units", Checks.town(LANE).about(13), 0);
        // A unit ( e ) is one, too, beside those within it.
        String within = "oil (1" + "+1".repeat(28);
        Checks.fine(within + ");", 0);
        Checks.due("units", Checks.town(within + ");").about(13), 30);
        Checks.fault(2, within + "+^1);");
        // Each town counts its own anew.
        LaneDoors x = Checks.town(thirty + ";");
        for (int i = 0; i < 3; i++) {
            Checks.feed(x, thirty + ";");
            Checks.due("town() again", x.town(), 0);
            Checks.due("units again", x.about(13), 30);
        }
    }

    private static void missing() {
        Checks.says(0, "2 one that can't stand there");
        for (String text : new String[] {"oil ^;", "oil (^);", "oil 1 + ^;", "oil 1 * ^;", "oil 1 < ^;", "oil 1 and ^;",
            "oil 1 or ^;", "oil not ^;", "oil (1^;", "oil 1^);", "oil ^", "oil ^- 1;", "oil 1 < 2 ^< 3;", "oil 1 + ^not 1;",
            "oil place ^place;", "stock ^;", "draw ^;", "stock 1 ^1;", "draw 1^",
            "lane ^long 1 wide 1;", "lane a ^1 wide 1;", "lane a long ^wide 1;", "lane a long 1 ^1;", "lane a long 1 wide ^;",
            "lane a long 1 wide 1 ^lane", LANE + "door ^in l at 0 broad 1 left north;", LANE + "door a ^l at 0 broad 1 left north;",
            LANE + "door a in ^at 0 broad 1 left north;", LANE + "door a in l ^0 broad 1 left north;",
            LANE + "door a in l at ^broad 1 left north;", LANE + "door a in l at 0 ^1 left north;",
            LANE + "door a in l at 0 broad ^left north;", LANE + "door a in l at 0 broad 1 left north ^",
            TWO + "corner ^0 with m 0;", TWO + "corner l ^with m 0;", TWO + "corner l 0 ^m 0;", TWO + "corner l 0 with ^0;",
            TWO + "corner l 0 with m ^;", TWO + "corner l 0 with m 0 ^corner", "^a;", "^1;", "^;", "^(;", "^wide 1;"}) {
            Checks.fault(2, text);
        }
    }

    private static void depth() {
        Checks.says(0, "(a unit ( e ), or a one behind not, within 6 others at most)");
        Checks.fine("oil " + "(".repeat(7) + "1" + ")".repeat(7) + ";", 0);
        Checks.fault(2, "oil " + "(".repeat(7) + "^(1" + ")".repeat(8) + ";");
        Checks.fine("oil " + "not ".repeat(7) + "1;", 0);
        Checks.fault(2, "oil " + "not ".repeat(7) + "^not 1;");
        for (int nots = 0; nots <= 7; nots++) {
            String open = "not ".repeat(nots) + "(".repeat(7 - nots);
            String shut = ")".repeat(7 - nots);
            Checks.fine("oil " + open + "1" + shut + ";", 0);
            Checks.fault(2, "oil " + open + "^(1)" + shut + ";");
            Checks.fault(2, "oil " + open + "^not 1" + shut + ";");
            // What is beside is not within.
            Checks.fine("oil " + open + "1" + shut + " and " + open + "1" + shut + ";", 0);
        }
        Checks.fine("oil ((not (not (not 1))));", 0);
        Checks.fault(2, "oil ((not (not (not ^(1)))));");
    }

    private static void faultPlaces() {
        Checks.says(0, "FAULTS, the first by its place (bytes from 0; the end: the text's length), at one place the least");
        Checks.fault(1, "^,");
        Checks.fault(2, "^;");
        Checks.fault(2, "lane a long 1 wide 1^");
        Checks.fault(2, "lane a long 1 wide 1 \n ^");
        Checks.fault(4, "lane a long ^17 wide 9 ,");
        Checks.fault(2, "lane a ^wide 17 ,");
        Checks.fault(1, "lane a ^, 17 lane");
        Checks.fault(3, LANE + "lane ^l long 17 wide 9;");
        Checks.fault(5, LANE + "door a in ^k at 99 broad 9 ,");
        // A second lane that is one too many is so at its first word, whatever its name is.
        String four = "lane a long 1 wide 1;lane b long 1 wide 1;lane c long 1 wide 1;lane d long 1 wide 1;";
        Checks.fault(2, four + "^lane a long 99 wide 99;");
        // No token where a unit too many, a second side or a name would stand, too: the least.
        Checks.fault(1, "oil 1" + "+1".repeat(29) + "+^12345;");
        Checks.fault(1, LANE + "lane ^abcdefghij long 1 wide 1;");
        Checks.fault(1, LANE + "door a in l at ^00009 broad 1");
        Checks.fault(1, "oil 1;^oiloiloil 2;");
    }

    private static void faultKinds() {
        Checks.says(0, "one of a sort too many or a second time: at the line's first word");
        Checks.fault(2, "stock 1;  ^stock 1;");
        Checks.fault(2, "stock 1;\n^stock");
        Checks.says(0, "a unit too many, what is within 7 others: at its first TOKEN, or the not");
        Checks.fault(2, "oil 1" + "+1".repeat(29) + "+ ^(day);");
        Checks.fault(2, "oil not not not not not not not ^not not 1;");
        Checks.says(0, "3 a NAME told already (of its sort), a DOOR on a place of another one of its LANE and side (at its side), a CORNER of a LANE with itself (at the second NAME)");
        Checks.fault(3, LANE + "lane ^l long 1 wide 1;");
        Checks.fine(LANE + "door l in l at 0 broad 1 left north;", 1);
        String door = TWO + "door a in l at 3 broad 2 left north;";
        Checks.fault(3, door + "door ^a in m at 0 broad 1 left north;");
        Checks.fault(3, door + "door b in l at 4 broad 2 left ^north;");
        Checks.fault(3, door + "door b in l at 3 broad 1 right ^north;");
        Checks.fault(3, door + "door b in l at 4 broad 1 right ^north;");
        Checks.fault(3, door + "door b in l at 0 broad 4 right ^north;");
        Checks.fault(3, door + "door b in l at 2 broad 4 right ^north");
        Checks.fine(door + "door b in l at 0 broad 3 left north;door c in l at 5 broad 3 left north;", 3);
        Checks.fine(door + "door b in l at 3 broad 2 left south;", 2);
        Checks.fine(TWO + "door a in l at 0 broad 2 left north;door b in m at 0 broad 2 left north;", 2);
        Checks.fault(3, TWO + "corner l 0 with ^l 1;");
        Checks.fault(3, TWO + "corner l 0 with ^l 99;");
        Checks.fault(3, TWO + "corner m 0 with ^m 0;");
        Checks.fault(2, TWO + "corner l 0 with ^7 1;");
        Checks.says(0, "4 a number that can't be; 5 a NAME that no LANE has");
        Checks.fault(4, "lane a long ^0 wide 0;");
        Checks.fault(5, TWO + "door a in ^a at 0 broad 1 left north;");
        Checks.fault(5, TWO + "door a in l at 0 broad 1 left north;corner ^a 0 with m 0;");
        Checks.fault(5, TWO + "corner ^k 0 with l 0;");
        Checks.fault(5, TWO + "corner l 0 with ^k 0;");
        String four = "lane a long 1 wide 1;lane b long 1 wide 1;lane c long 1 wide 1;lane d long 1 wide 1;";
        Checks.fault(5, four + "door a in ^e at 0 broad 1 left north;");
        Checks.fault(5, four + "corner ^e 0 with a 0;");
        Checks.fault(5, four + "corner a 0 with ^e 0;");
        // A name of a lane of the town before is no name of one now, and may be told anew.
        LaneDoors x = Checks.town(four + "door p in b at 0 broad 1 left north;");
        for (int i = 0; i < 3; i++) {
            Checks.feed(x, "lane a long 1 wide 1;door q in b at 0 broad 1 left north;");
            Checks.due("town()", x.town(), -1);
            Checks.due("its fault", 100 * x.fault(0) + x.fault(1), 531);
            Checks.feed(x, "lane b long 1 wide 1;door q in b at 0 broad 1 left north;door p in b at 0 broad 1 left south;");
            Checks.due("town() with the names told anew", x.town(), 2);
        }
    }

    private static void newObject() {
        Checks.says(1, "An empty TOWN.");
        LaneDoors x = new LaneDoors();
        for (int what = 0; what <= 14; what++) {
            Checks.due("about(" + what + ")", x.about(what), 0);
        }
        Checks.due("door(0, 0)", x.door(0, 0), -2);
        Checks.due("free(0, 0)", x.free(0, 0), -1);
        Checks.due("lies(0)", x.lies(0), -1);
        Checks.due("undo()", x.undo(), false);
        Checks.due("redo()", x.redo(), false);
        for (int box = 0; box < 3; box++) {
            Checks.none(x, "back(" + box + ")", y -> y.back(0));
        }
        LaneDoors other = Checks.town(LANE + "door a in l at 0 broad 1 left north;");
        Checks.due("a town of another object", x.about(0) + other.about(0), 1);
    }

    private static void feed() {
        Checks.says(2, "Twenty bytes come behind those on the TAPE, of each number the highest first: how many there are");
        LaneDoors x = new LaneDoors();
        int blank = 0x20202020;
        Checks.due("feed", x.feed(blank, blank, blank, blank, blank), 20);
        Checks.due("feed", x.feed(blank, blank, blank, blank, 0x20202080), 40);
        Checks.due("town()", x.town(), -1);
        Checks.due("the last byte of the last number", x.fault(1), 39);
        for (int i = 0; i < 20; i++) {
            int[] five = {blank, blank, blank, blank, blank};
            five[i / 4] ^= 0xdf << (24 - 8 * (i % 4));
            x.end(0);
            x.feed(five[0], five[1], five[2], five[3], five[4]);
            Checks.due("town()", x.town(), -1);
            Checks.due("a byte 255", 100 * x.fault(0) + x.fault(1), 100 + i);
        }
        Checks.says(2, "NONE, and nothing comes, if there would be more than 1,600");
        LaneDoors full = new LaneDoors();
        for (int i = 1; i <= 80; i++) {
            Checks.due("feed " + i, full.feed(blank, blank, blank, blank, blank), 20 * i);
        }
        Checks.none(full, "feed to 1,620", y -> y.feed(0, 0, 0, 0, 0));
        full.end(1599);
        Checks.none(full, "feed to 1,619", y -> y.feed(0, 0, 0, 0, 0));
        full.end(1581);
        Checks.none(full, "feed to 1,601", y -> y.feed(0, 0, 0, 0, 0));
        Checks.due("end(1581)", full.end(1581), 1581);
        full.end(1580);
        Checks.due("feed to 1,600", full.feed(blank, blank, blank, blank, 0x3b202020), 1600);
        Checks.due("town()", full.town(), -1);
        Checks.due("what came last stands there, nothing else", 10000 * full.fault(0) + full.fault(1), 21596);
    }

    private static void end() {
        Checks.says(3, "The TAPE has its first n bytes: n");
        LaneDoors x = new LaneDoors();
        Checks.due("end(0) of none", x.end(0), 0);
        Checks.feed(x, "stock 7;draw 5;xxxxx");
        Checks.due("end(20)", x.end(20), 20);
        Checks.due("end(15)", x.end(15), 15);
        Checks.none(x, "end(16)", y -> y.end(16));
        Checks.due("end(8)", x.end(8), 8);
        x.feed(0x64726177, 0x20363b20, 0x20202020, 0x20202020, 0x20202020);
        Checks.due("bytes", x.about(12), 28);
        Checks.due("town()", x.town(), 0);
        Checks.due("the stock of the first bytes", x.about(5), 7);
        Checks.due("the draw of those behind them", x.about(7), 6);
        // What was cut off is not read: neither a letter behind an N, nor the rest of a word, nor a blank.
        cutAt(7, "stock 7abc", 207);
        cutAt(4, "lanelong", 204);
        cutAt(4, "lane    ", 204);
        cutAt(7, "stock 7;", 207);
        cutAt(8, "stock 7;,", 0);
        Checks.says(3, "NONE, doing nothing, if it has not so many, or n is below 0");
        Checks.none(x, "end(1) of none", y -> y.end(1));
        Checks.feed(x, "stock 7;");
        for (int n : new int[] {-1, 9, 20, 1600, 1601, Integer.MIN_VALUE, Integer.MAX_VALUE}) {
            Checks.none(x, "end(" + n + ")", y -> y.end(n));
        }
        Checks.due("town() of all that stands", x.town(), 0);
        Checks.due("its stock", x.about(5), 7);
    }

    /** Holds the fault of a text's first bytes, told as by faultOf. */
    private static void cutAt(int n, String text, int due) {
        LaneDoors x = new LaneDoors();
        Checks.feed(x, text);
        x.end(n);
        Checks.due(n + " bytes of " + text, x.town() >= 0 ? 0 : 100 * x.fault(0) + x.fault(1), due);
    }

    /** A town in which all that town() takes away has been put there. */
    private static LaneDoors livelyTown() {
        LaneDoors x = Checks.town(LANE + "door a in l at 0 broad 2 left north;door b in l at 3 broad 2 left north loose;"
                + "door c in l at 6 broad 2 left north;stock 9;draw 2;oil 1;");
        x.later(4);
        x.open(0);
        x.day();
        x.wind();
        x.off(2);
        x.hinge(2);
        x.day();
        x.undo();
        x.heard(0, 1);
        x.untell(0);
        x.heard(1, 0);
        x.image(0);
        x.image(1);
        x.image(2);
        x.far(0, 0, 1);
        return x;
    }

    private static void town() {
        Checks.says(4, "The TAPE (empty then) is the TOWN (all as told, day 0, no ACTS are kept, nothing is HEARD, nothing lies there, BOXES are empty then; the TIME stays): how many DOORS");
        LaneDoors x = livelyTown();
        int[] before = {3, 1, 0, 3, 4, 8, 1, 345, 4, 1, 2, 4, 0, 1, 1};
        for (int what = 0; what < before.length; what++) {
            Checks.due("about(" + what + ") ahead of town()", x.about(what), before[what]);
        }
        Checks.feed(x, "lane m long 4 wide 2;lane k long 3 wide 1;corner k 0 with m 1;door p in m at 1 broad 2 right south open;"
                + "door q in k at 0 broad 1 left north tied;stock 3;draw 8;");
        Checks.due("town()", x.town(), 2);
        int[] due = {2, 2, 1, 1, 0, 3, 0, 8, 0, 0, 0, 4, 0, 0, 0};
        for (int what = 0; what < due.length; what++) {
            Checks.due("about(" + what + ") behind town()", x.about(what), due[what]);
        }
        for (int box = 0; box < 3; box++) {
            int empty = box;
            Checks.none(x, "back(" + box + ")", y -> y.back(empty));
        }
        Checks.refused(x, "undo()", LaneDoors::undo);
        Checks.refused(x, "redo()", LaneDoors::redo);
        Checks.refused(x, "untell(0)", y -> y.untell(0));
        Checks.due("times", x.sum(0), 0);
        Checks.due("the hinge as told", x.door(0, 3), 2);
        Checks.due("lies(0)", x.lies(0), -1);
        Checks.due("oil, not told any more", x.oil(0), 0);
        Checks.due("the first one that is heard", x.heard(0, 1), 0);
        Checks.due("town() of the empty tape", x.town(), 0);
        Checks.due("doors", x.about(0), 0);
        Checks.due("lanes", x.about(1), 0);
        Checks.due("corners", x.about(2), 0);
        Checks.due("what is heard", x.about(10), 0);
        Checks.due("the time", x.about(11), 4);
        // Nothing of the town before last is left, either.
        LaneDoors third = Checks.town(LANE + "lane m long 3 wide 8;corner l 0 with m 0;"
                + "door a in l at 0 broad 2 right south loose tied open;oil 5;stock 7;draw 9;");
        for (int i = 0; i < 2; i++) {
            Checks.feed(third, LANE + "door b in l at 0 broad 2 left north;");
            Checks.due("town()", third.town(), 1);
            int[] bare = {0, 0, 2, 0, 0, 0, 0, 0, 0, 0};
            for (int what = 0; what < bare.length; what++) {
                Checks.due("door(0, " + what + ")", third.door(0, what), bare[what]);
            }
            for (int what = 1; what < 15; what++) {
                Checks.due("about(" + what + ")", third.about(what), what == 1 ? 1 : 0);
            }
            Checks.due("oil", third.oil(0), 0);
            Checks.due("can", third.can(0), 1);
            Checks.due("a place of a lane that was", third.free(1, 0), -1);
            Checks.due("wind()", third.wind(), 0);
        }
        // The same town anew: all as told again.
        LaneDoors again = Checks.town(LANE + "door a in l at 0 broad 2 left north;");
        again.open(0);
        Checks.feed(again, LANE + "door a in l at 0 broad 2 left north;");
        Checks.due("town() again", again.town(), 1);
        Checks.due("what is open", again.about(3), 0);
        Checks.due("times", again.door(0, 9), 0);
    }

    private static void townWithFault() {
        Checks.says(4, "NONE: a FAULT (all stays)");
        LaneDoors x = livelyTown();
        String bad = "lane m long 4 wide 2;door p in m at 0 broad 4 right south open;stock 3;draw 8;oil 5;oil";
        Checks.feed(x, bad);
        int[] due = {3, 1, 0, 3, 4, 8, 1, 345, 4, 1, 2, 4, bad.length(), 1, 1};
        Checks.due("town()", x.town(), -1);
        for (int what = 0; what < due.length; what++) {
            Checks.due("about(" + what + ") behind a fault", x.about(what), due[what]);
        }
        Checks.due("what lies there", x.lies(0), 7);
        Checks.due("a door's breadth", x.door(0, 2), 2);
        Checks.due("its lane's width", x.free(0, 7), 3);
        Checks.due("oil", x.oil(0), 1);
        Checks.due("what was heard counts", x.tales(3, 4), 1);
        Checks.due("redo()", x.redo(), true);
        Checks.due("undo()", x.undo(), true);
        Checks.due("the day", x.about(6), 1);
        for (int box = 0; box < 3; box++) {
            Checks.due("back(" + box + ")", x.back(box), 2);
        }
        // The tape stays, too: without its end it is a town.
        Checks.due("end()", x.end(bad.length() - 3), bad.length() - 3);
        Checks.due("town()", x.town(), 1);
        Checks.due("its stock", x.about(5), 3);
    }

    private static void fault() {
        Checks.says(5, "Of the latest town() what 0: its FAULT (0), 1: its place (NONE).");
        LaneDoors x = new LaneDoors();
        Checks.due("fault(0) ahead of any", x.fault(0), 0);
        Checks.due("fault(1) ahead of any", x.fault(1), -1);
        Checks.feed(x, "lane a long 99");
        Checks.due("fault(0) of what is on the tape only", x.fault(0), 0);
        x.town();
        Checks.due("fault(0)", x.fault(0), 4);
        Checks.due("fault(1)", x.fault(1), 12);
        x.end(0);
        x.undo();
        Checks.due("fault(0), the latest one still", x.fault(0), 4);
        Checks.feed(x, "^");
        x.town();
        Checks.due("fault(0), another one", x.fault(0), 1);
        Checks.due("fault(1) at the first byte", x.fault(1), 0);
        x.end(0);
        x.town();
        Checks.due("fault(0) of none", x.fault(0), 0);
        Checks.due("fault(1) of none", x.fault(1), -1);
        Checks.says(5, "NONE for another what");
        Checks.feed(x, "draw 7777;");
        x.town();
        for (int what : Checks.FAR_OUT) {
            Checks.none(x, "fault(" + what + ")", y -> y.fault(what));
        }
        Checks.none(x, "fault(2)", y -> y.fault(2));
    }
}
