/** Terms 3 and promises 33 to 41, sentence by sentence: the edges of ways for carts. */
public final class WayEdgesTest {
    // A ring of l and m, joined at both ends; p hangs at l's middle, q at nothing.
    private static final String RING = "lane l long 5 wide 3;lane m long 3 wide 2;lane p long 2 wide 8;lane q long 16 wide 1;"
            + "corner l 0 with m 0;corner l 4 with m 2;corner p 0 with l 2;"
            + "door a in l at 1 broad 2 left north;door b in l at 3 broad 2 left south;door c in m at 1 broad 1 left north;";
    /** A lane and a place of RING that can't be, for each of both. */
    private static final int[][] NO_PLACES = {{0, 5}, {1, 3}, {2, 2}, {3, 16}, {4, 0}, {0, -1}, {-1, 0}, {-1, -1},
        {Integer.MIN_VALUE, 0}, {Integer.MAX_VALUE, 0}, {0, Integer.MIN_VALUE}, {0, Integer.MAX_VALUE}, {1, 16}, {0, 16}};
    private static final int[] NO_CARTS = {0, 9, 10, -1, -8, Integer.MIN_VALUE, Integer.MAX_VALUE};

    public static void main(String[] args) {
        narrow();
        wayTerm();
        widest();
        spread();
        far();
        parts();
        calm();
        needs();
        way();
        make();
        Checks.finish();
    }

    private static void narrow() {
        Checks.says(33, "Of a LANE what 0: the least FREE, 1: the first such place; NONE if there is none such, or for another what");
        LaneDoors x = Checks.town(RING);
        Checks.still(x, "narrow(0, 0)", y -> y.narrow(0, 0), 3);
        Checks.still(x, "narrow(0, 1), all alike", y -> y.narrow(0, 1), 0);
        x.open(0);
        x.open(1);
        Checks.due("narrow(0, 0)", x.narrow(0, 0), 1);
        Checks.due("narrow(0, 1), the first of two", x.narrow(0, 1), 1);
        LaneDoors last = Checks.town("lane l long 16 wide 1;door a in l at 15 broad 1 left north open;");
        Checks.due("narrow(0, 0)", last.narrow(0, 0), 0);
        Checks.due("narrow(0, 1), the last place", last.narrow(0, 1), 15);
        LaneDoors one = Checks.town("lane l long 1 wide 8;");
        Checks.due("narrow(0, 0) of one place", one.narrow(0, 0), 8);
        Checks.due("narrow(0, 1) of one place", one.narrow(0, 1), 0);
        Checks.none(x, "narrow(4, 0)", y -> y.narrow(4, 0));
        Checks.none(one, "narrow(1, 0)", y -> y.narrow(1, 0));
        Checks.none(x, "narrow(0, 2)", y -> y.narrow(0, 2));
        for (int bad : Checks.FAR_OUT) {
            Checks.none(x, "narrow(" + bad + ", 0)", y -> y.narrow(bad, 0));
            Checks.none(x, "narrow(0, " + bad + ")", y -> y.narrow(0, bad));
        }
    }

    private static void wayTerm() {
        Checks.says(0, "A CART that PUSHES nothing goes from a place to the next one of its LANE, and between both places of a CORNER, if FREE is n at least at both. WAY: the fewest such steps from a place to another one (FREE at the first, too).");
        LaneDoors x = Checks.town(RING);
        Checks.still(x, "to the next place", y -> y.way(0, 0, 0, 1, 3), 1);
        Checks.still(x, "and back", y -> y.way(0, 1, 0, 0, 3), 1);
        Checks.still(x, "through a corner", y -> y.way(0, 4, 1, 2, 2), 1);
        Checks.still(x, "and back", y -> y.way(1, 2, 0, 4, 2), 1);
        Checks.still(x, "too broad for the other place", y -> y.way(0, 4, 1, 2, 3), -1);
        Checks.still(x, "too broad for the first place", y -> y.way(1, 2, 0, 4, 3), -1);
        Checks.still(x, "the shorter way of two", y -> y.way(0, 0, 1, 2, 1), 3);
        Checks.still(x, "no corner", y -> y.way(0, 0, 3, 0, 1), -1);
        Checks.due("the last place of one lane and the first of the next", x.way(3, 0, 2, 1, 1), -1);
        x.open(0);
        // The open door at place 1 is not pushed: there is the way around, or none.
        Checks.due("around it", x.way(0, 0, 0, 2, 2), 6);
        Checks.due("past it", x.way(0, 0, 0, 2, 1), 2);
        Checks.due("to its place", x.way(0, 0, 0, 1, 2), -1);
        Checks.due("from its place", x.way(0, 1, 0, 0, 2), -1);
        Checks.due("from its place, narrow", x.way(0, 1, 0, 0, 1), 1);
        LaneDoors row = Checks.town("lane a long 16 wide 1;lane b long 16 wide 1;lane c long 16 wide 1;lane d long 16 wide 1;"
                + "corner a 15 with b 15;corner b 0 with c 0;corner c 15 with d 15;");
        Checks.due("the longest way", row.way(0, 0, 3, 0, 1), 63);
        Checks.due("the longest way back", row.way(3, 0, 0, 0, 1), 63);
        Checks.due("all places", row.spread(0, 0, 1), 64);
        // The last place of a lane and the first of the next one are no neighbours.
        LaneDoors apart = Checks.town("lane a long 16 wide 1;lane b long 16 wide 1;lane c long 16 wide 1;");
        for (int lane = 0; lane < 3; lane++) {
            Checks.due("spread from a first place", apart.spread(lane, 0, 1), 16);
            Checks.due("spread from a last place", apart.spread(lane, 15, 1), 16);
        }
        Checks.due("parts of three lanes", apart.parts(1, 0), 3);
        Checks.due("all that it needs", row.needs(0, 0, 3, 0, 1), 62);
        Checks.due("the first one", row.lies(0), 1);
        Checks.due("the last one", row.lies(61), 315);
        Checks.due("one in the middle", row.lies(15), 100);
        Checks.due("behind the last one", row.lies(62), -1);
    }

    private static void widest() {
        Checks.says(34, "The broadest CART (1 .. 8) that has a WAY; 0 if none has; NONE if one can't be.");
        LaneDoors x = Checks.town(RING);
        Checks.still(x, "widest of 8", y -> y.widest(2, 0, 2, 1), 8);
        Checks.still(x, "widest along l", y -> y.widest(0, 0, 0, 4), 3);
        Checks.still(x, "widest into m", y -> y.widest(2, 1, 1, 1), 2);
        Checks.still(x, "widest along q", y -> y.widest(3, 0, 3, 15), 1);
        Checks.still(x, "widest to q", y -> y.widest(0, 0, 3, 0), 0);
        LaneDoors full = Checks.town("lane l long 3 wide 1;door a in l at 1 broad 1 left north open;");
        Checks.due("widest past a door", full.widest(0, 0, 0, 2), 0);
        Checks.due("widest at a door", full.widest(0, 1, 0, 1), 0);
        for (int[] bad : NO_PLACES) {
            Checks.none(x, "widest from none", y -> y.widest(bad[0], bad[1], 0, 0));
            Checks.none(x, "widest to none", y -> y.widest(0, 0, bad[0], bad[1]));
        }
    }

    private static void spread() {
        Checks.says(0, "SPREAD: places to which there is a WAY from one (it, too).");
        LaneDoors x = Checks.town(RING);
        Checks.still(x, "spread for 1", y -> y.spread(0, 0, 1), 10);
        Checks.still(x, "spread for 3", y -> y.spread(0, 0, 3), 7);
        Checks.still(x, "spread for 8", y -> y.spread(2, 1, 8), 2);
        Checks.still(x, "spread in q", y -> y.spread(3, 15, 1), 16);
        x.open(0);
        Checks.due("spread, it alone", x.spread(0, 0, 3), 1);
        Checks.says(35, "SPREAD (n 1 .. 8): how many (0 if FREE is not enough); NONE if one can't be.");
        Checks.still(x, "spread from an open door", y -> y.spread(0, 1, 2), 0);
        Checks.still(x, "spread for 4", y -> y.spread(0, 0, 4), 0);
        for (int bad : NO_CARTS) {
            Checks.none(x, "spread for " + bad, y -> y.spread(0, 0, bad));
        }
        for (int[] bad : NO_PLACES) {
            Checks.none(x, "spread from none", y -> y.spread(bad[0], bad[1], 1));
        }
    }

    private static void far() {
        Checks.says(36, "SPREAD's farthest place (n 1 .. 8): how many steps; NONE if FREE is not enough, or one can't be. 100 * the LANE and the place (of like ones the first) lies there then (behind NONE: nothing).");
        LaneDoors x = Checks.town(RING);
        Checks.due("far(0, 0, 1)", x.far(0, 0, 1), 4);
        // l 4 and p 1 are both as far: the first.
        Checks.lie("far(0, 0, 1)", x, 4);
        Checks.due("far(1, 1, 1)", x.far(1, 1, 1), 6);
        Checks.lie("far(1, 1, 1)", x, 201);
        Checks.due("far(2, 0, 8)", x.far(2, 0, 8), 1);
        Checks.lie("far(2, 0, 8)", x, 201);
        Checks.due("far(3, 0, 1)", x.far(3, 0, 1), 15);
        Checks.lie("far(3, 0, 1)", x, 315);
        Checks.due("far(3, 7, 1)", x.far(3, 7, 1), 8);
        Checks.lie("far(3, 7, 1)", x, 315);
        // From the middle of 15 places both ends are as far.
        LaneDoors middle = Checks.town("lane l long 15 wide 1;");
        Checks.due("far(0, 7, 1)", middle.far(0, 7, 1), 7);
        Checks.lie("far(0, 7, 1)", middle, 0);
        LaneDoors pair = Checks.town("lane l long 2 wide 1;");
        Checks.due("far of two places", pair.far(0, 0, 1), 1);
        Checks.lie("far of two places", pair, 1);
        Checks.due("far of two places, back", pair.far(0, 1, 1), 1);
        Checks.lie("far of two places, back", pair, 0);
        LaneDoors alone = Checks.town("lane k long 1 wide 1;lane l long 1 wide 2;");
        Checks.due("far of one place", alone.far(1, 0, 2), 0);
        Checks.lie("far of one place", alone, 100);
        for (int bad : NO_CARTS) {
            Checks.noneAndCleared(x, "far for " + bad, y -> y.far(0, 0, bad));
        }
        for (int[] bad : NO_PLACES) {
            Checks.noneAndCleared(x, "far from none", y -> y.far(bad[0], bad[1], 1));
        }
        Checks.noneAndCleared(x, "far for 4 in 3", y -> y.far(0, 0, 4));
        x.open(0);
        Checks.noneAndCleared(x, "far from an open door", y -> y.far(0, 1, 2));
        Checks.due("far beside it", x.far(0, 0, 3), 0);
        Checks.lie("far beside it", x, 0);
    }

    private static void parts() {
        Checks.says(37, "Into how many parts all places at which FREE is n at least fall (1 .. 8), each with WAYS between all of its own, what 0: how many, 1: places in the largest (0); NONE if one can't be.");
        LaneDoors x = Checks.town(RING);
        Checks.still(x, "parts(1, 0)", y -> y.parts(1, 0), 2);
        Checks.still(x, "parts(1, 1)", y -> y.parts(1, 1), 16);
        Checks.still(x, "parts(2, 0)", y -> y.parts(2, 0), 1);
        Checks.still(x, "parts(2, 1)", y -> y.parts(2, 1), 10);
        Checks.still(x, "parts(8, 0)", y -> y.parts(8, 0), 1);
        Checks.still(x, "parts(8, 1)", y -> y.parts(8, 1), 2);
        LaneDoors thin = Checks.town("lane l long 3 wide 7;");
        Checks.due("parts(8, 0) of none", thin.parts(8, 0), 0);
        Checks.due("parts(8, 1) of none", thin.parts(8, 1), 0);
        Checks.due("parts(1, 0) of no lanes", new LaneDoors().parts(1, 0), 0);
        Checks.due("parts(1, 1) of no lanes", new LaneDoors().parts(1, 1), 0);
        LaneDoors first = Checks.town("lane l long 3 wide 1;door a in l at 1 broad 1 left north open;");
        Checks.due("parts(1, 0), the very first place alone", first.parts(1, 0), 2);
        // Each other place is shut: 8 parts of one place.
        StringBuilder text = new StringBuilder("lane l long 16 wide 1;");
        for (int i = 0; i < 8; i++) {
            text.append("door ").append((char) ('a' + i)).append(" in l at ").append(2 * i).append(" broad 1 left north open;");
        }
        LaneDoors many = Checks.town(text.toString());
        Checks.due("parts(1, 0) of many", many.parts(1, 0), 8);
        Checks.due("parts(1, 1) of many", many.parts(1, 1), 1);
        for (int bad : NO_CARTS) {
            Checks.none(x, "parts(" + bad + ", 0)", y -> y.parts(bad, 0));
            Checks.none(x, "parts(" + bad + ", 1)", y -> y.parts(bad, 1));
        }
        Checks.none(x, "parts(1, 2)", y -> y.parts(1, 2));
        for (int bad : Checks.FAR_OUT) {
            Checks.none(x, "parts(1, " + bad + ")", y -> y.parts(1, bad));
        }
    }

    private static void calm() {
        Checks.says(38, "Behind how many WINDS no loose DOOR CAN be opened any more (0: now; 20 at most; NONE: not by these).");
        Checks.due("calm() of no doors", new LaneDoors().calm(), 0);
        LaneDoors x = Checks.town("lane l long 9 wide 2;door a in l at 0 broad 2 left north loose;door b in l at 0 broad 2 left south loose;draw 1;");
        Checks.still(x, "calm()", LaneDoors::calm, 1);
        x.wind();
        Checks.still(x, "calm() behind one", LaneDoors::calm, 0);
        x.shut(0);
        Checks.still(x, "calm() anew", LaneDoors::calm, 1);
        x.off(0);
        x.off(1);
        Checks.still(x, "calm(), all off", LaneDoors::calm, 0);
        String none = "lane l long 9 wide 2;door a in l at 0 broad 2 left north;door b in l at 0 broad 2 left south loose tied;";
        Checks.due("calm(), none loose that can", Checks.town(none).calm(), 0);
    }

    private static void needs() {
        Checks.says(0, "NEEDS: places, but both ends, without which there is no WAY.");
        LaneDoors x = Checks.town(RING);
        Checks.due("needs, two ways", x.needs(0, 0, 0, 4, 2), 0);
        Checks.lie("needs, two ways", x);
        Checks.due("needs, one way", x.needs(0, 0, 0, 4, 3), 3);
        Checks.lie("needs, one way", x, 1, 2, 3);
        Checks.due("needs, to the next place", x.needs(0, 0, 0, 1, 3), 0);
        Checks.due("needs, to itself", x.needs(0, 2, 0, 2, 3), 0);
        Checks.says(39, "NEEDS (n 1 .. 8): how many; NONE if there is no WAY, or one can't be. Of each 100 * the LANE and the place lie there then (by LANES, places; behind NONE: nothing).");
        Checks.due("needs, from the far end", x.needs(2, 1, 1, 1, 2), 2);
        Checks.lie("needs, from the far end", x, 2, 200);
        Checks.due("needs for 8", x.needs(2, 0, 2, 1, 8), 0);
        Checks.noneAndCleared(x, "needs, no way", y -> y.needs(0, 0, 3, 0, 1));
        Checks.noneAndCleared(x, "needs, too broad", y -> y.needs(0, 0, 1, 0, 3));
        Checks.noneAndCleared(x, "needs, too broad at the first", y -> y.needs(1, 0, 0, 0, 3));
        Checks.noneAndCleared(x, "needs to itself, too broad", y -> y.needs(0, 0, 0, 0, 4));
        for (int bad : NO_CARTS) {
            Checks.noneAndCleared(x, "needs for " + bad, y -> y.needs(0, 0, 0, 1, bad));
        }
        for (int[] bad : NO_PLACES) {
            Checks.noneAndCleared(x, "needs from none", y -> y.needs(bad[0], bad[1], 0, 0, 1));
            Checks.noneAndCleared(x, "needs to none", y -> y.needs(0, 0, bad[0], bad[1], 1));
        }
        x.open(2);
        // m is shut for 2, so that l is needed again.
        Checks.due("needs, one way left", x.needs(1, 0, 1, 2, 2), 5);
        Checks.lie("needs, one way left", x, 0, 1, 2, 3, 4);
    }

    private static void way() {
        Checks.says(40, "WAY (n 1 .. 8): how many steps; NONE if there is none, or one can't be.");
        LaneDoors x = Checks.town(RING);
        Checks.still(x, "way for 1", y -> y.way(0, 0, 0, 4, 1), 4);
        Checks.still(x, "way for 8", y -> y.way(2, 0, 2, 1, 8), 1);
        Checks.still(x, "way to itself", y -> y.way(0, 0, 0, 0, 3), 0);
        Checks.none(x, "way to itself, too broad", y -> y.way(0, 0, 0, 0, 4));
        Checks.none(x, "no way", y -> y.way(0, 0, 3, 0, 1));
        for (int bad : NO_CARTS) {
            Checks.none(x, "way for " + bad, y -> y.way(0, 0, 0, 1, bad));
        }
        for (int[] bad : NO_PLACES) {
            Checks.none(x, "way from none", y -> y.way(bad[0], bad[1], 0, 0, 1));
            Checks.none(x, "way to none", y -> y.way(0, 0, bad[0], bad[1], 1));
        }
    }

    private static void make() {
        Checks.says(0, "MAKE: the fewest open DOORS (3 at most, not tied) to be shut so that there is a WAY; of like ones the least set as bits.");
        StringBuilder text = new StringBuilder("lane l long 16 wide 1;");
        for (int i = 0; i < 5; i++) {
            text.append("door ").append((char) ('a' + i)).append(" in l at ").append(2 * i + 1).append(" broad 1 left north open;");
        }
        LaneDoors row = Checks.town(text.toString());
        int[] due = {0, 1, 1, 3, 3, 7, 7, -1, -1, -1};
        for (int to = 0; to < due.length; to++) {
            int place = to;
            Checks.still(row, "make to " + to, y -> y.make(0, 0, 0, place, 1), due[to]);
        }
        Checks.still(row, "make back from the last one", y -> y.make(0, 15, 0, 8, 1), 16);
        Checks.still(row, "make from a door's place", y -> y.make(0, 1, 0, 2, 1), 1);
        Checks.still(row, "make at a door's place", y -> y.make(0, 1, 0, 1, 1), 1);
        // Two ways around, a and d in one, b and c in the other one: 6 is less than 9.
        LaneDoors two = Checks.town("lane l long 6 wide 1;lane m long 6 wide 1;corner l 0 with m 0;corner l 5 with m 5;"
                + "door a in l at 1 broad 1 left north open;door b in m at 1 broad 1 left north open;"
                + "door c in m at 3 broad 1 left north open;door d in l at 3 broad 1 left north open;");
        Checks.still(two, "make, the least of two", y -> y.make(0, 0, 0, 5, 1), 6);
        two.shut(0);
        Checks.still(two, "make, the fewest", y -> y.make(0, 0, 0, 5, 1), 8);
        LaneDoors tied = Checks.town("lane l long 3 wide 1;door a in l at 1 broad 1 left north tied open;");
        Checks.none(tied, "make, tied", y -> y.make(0, 0, 0, 2, 1));
        Checks.says(41, "MAKE (n 1 .. 8), as bits (0 if there is a WAY already); NONE if 3 are not enough, or one can't be.");
        LaneDoors x = Checks.town(RING);
        Checks.still(x, "make, a way already", y -> y.make(0, 0, 0, 4, 3), 0);
        Checks.still(x, "make for 8", y -> y.make(2, 0, 2, 1, 8), 0);
        Checks.none(x, "make, too narrow", y -> y.make(0, 0, 0, 1, 4));
        Checks.none(x, "make, no corner", y -> y.make(0, 0, 3, 0, 1));
        for (int bad : NO_CARTS) {
            Checks.none(x, "make for " + bad, y -> y.make(0, 0, 0, 1, bad));
        }
        for (int[] bad : NO_PLACES) {
            Checks.none(x, "make from none", y -> y.make(bad[0], bad[1], 0, 0, 1));
            Checks.none(x, "make to none", y -> y.make(0, 0, bad[0], bad[1], 1));
        }
    }
}
