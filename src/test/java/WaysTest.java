/** Promises 33 to 41, but for calm (ActsTest): ways for carts through what is left. */
public final class WaysTest {
    // A ring: l from 0 to 4, m from 0 to 2, joined at both ends; p hangs at l's middle.
    private static final String RING = "lane l long 5 wide 3;lane m long 3 wide 2;lane p long 2 wide 4;"
            + "corner l 0 with m 0;corner l 4 with m 2;corner p 0 with l 2;"
            + "door a in l at 1 broad 2 left north;door b in l at 3 broad 2 left south;door c in m at 1 broad 1 left north;";

    public static void main(String[] args) {
        narrow();
        ways();
        spread();
        far();
        parts();
        needs();
        make();
        wrongOnes();
        Checks.finish();
    }

    private static void narrow() {
        LaneDoors x = Checks.town(RING);
        Checks.due("narrow(0, 0)", x.narrow(0, 0), 3);
        Checks.due("narrow(0, 1)", x.narrow(0, 1), 0);
        x.open(1);
        Checks.due("narrow(0, 0) with b", x.narrow(0, 0), 1);
        Checks.due("narrow(0, 1) with b", x.narrow(0, 1), 3);
        x.open(0);
        Checks.due("narrow(0, 1), the first", x.narrow(0, 1), 1);
        Checks.due("narrow(0, 2)", x.narrow(0, 2), -1);
        Checks.due("narrow(0, -1)", x.narrow(0, -1), -1);
        Checks.due("narrow(3, 0)", x.narrow(3, 0), -1);
        Checks.due("narrow(-1, 0)", x.narrow(-1, 0), -1);
    }

    private static void ways() {
        LaneDoors x = Checks.town(RING);
        Checks.due("way along l", x.way(0, 0, 0, 4, 3), 4);
        Checks.due("way through m", x.way(0, 0, 0, 4, 2), 4);
        Checks.due("to the place itself", x.way(0, 2, 0, 2, 3), 0);
        Checks.due("too broad for the place itself", x.way(0, 2, 0, 2, 4), -1);
        Checks.due("around the corner", x.way(0, 0, 1, 0, 2), 1);
        Checks.due("from p to m", x.way(2, 1, 1, 1, 1), 6);
        Checks.due("widest along l", x.widest(0, 0, 0, 4), 3);
        Checks.due("widest into m", x.widest(0, 0, 1, 0), 2);
        Checks.due("widest in p", x.widest(2, 0, 2, 1), 4);
        x.open(0);
        Checks.due("a in the way", x.way(0, 0, 0, 2, 2), 1 + 2 + 1 + 2);
        Checks.due("no way for 3", x.way(0, 0, 0, 2, 3), -1);
        Checks.due("from a's own place", x.way(0, 1, 0, 2, 2), -1);
        Checks.due("widest then", x.widest(0, 0, 0, 2), 2);
        x.open(2);
        Checks.due("m is shut for 2, too", x.widest(0, 0, 0, 2), 1);
        LaneDoors shut = Checks.town("lane l long 3 wide 1;lane m long 2 wide 1;door a in l at 1 broad 1 left north open;");
        Checks.due("no way at all", shut.widest(0, 0, 0, 2), 0);
        Checks.due("no corner", shut.widest(0, 0, 1, 0), 0);
        Checks.due("nothing free at the place itself", shut.widest(0, 1, 0, 1), 0);
        LaneDoors broad = Checks.town("lane l long 2 wide 8;");
        Checks.due("the broadest", broad.widest(0, 0, 0, 1), 8);
        Checks.due("way for 8", broad.way(0, 0, 0, 1, 8), 1);
        Checks.due("spread for 8", broad.spread(0, 1, 8), 2);
        Checks.due("far for 8", broad.far(0, 0, 8), 1);
        Checks.lie("far for 8", broad, 1);
        Checks.due("parts for 8", broad.parts(8, 1), 2);
        Checks.due("push for 8", broad.push(0, 1, 0, 8), 0);
        Checks.due("cart for 8", broad.cart(0, 0, 1, 8), 0);
    }

    private static void spread() {
        LaneDoors x = Checks.town(RING);
        Checks.due("spread for 1", x.spread(0, 0, 1), 10);
        Checks.due("spread for 3", x.spread(0, 0, 3), 7);
        Checks.due("spread for 4", x.spread(2, 0, 4), 2);
        Checks.due("spread for 4 from l", x.spread(0, 2, 4), 0);
        x.open(0);
        Checks.due("spread from a's place", x.spread(0, 1, 2), 0);
        Checks.due("spread past a", x.spread(0, 0, 3), 1);
    }

    private static void far() {
        LaneDoors x = Checks.town(RING);
        Checks.due("far in the ring", x.far(0, 0, 2), 4);
        Checks.lie("far in the ring", x, 4);
        Checks.due("far from m's middle", x.far(1, 1, 1), 6);
        Checks.lie("far from m's middle", x, 201);
        Checks.due("far too broad", x.far(0, 0, 4), -1);
        Checks.lie("far too broad", x);
        Checks.due("far in p", x.far(2, 1, 4), 1);
        Checks.lie("far in p", x, 200);
        Checks.due("far nowhere", x.far(3, 0, 1), -1);
        Checks.lie("far nowhere", x);
        x.open(0);
        Checks.due("far alone", x.far(0, 0, 3), 0);
        Checks.lie("far alone", x, 0);
        Checks.due("far(0, 0, 9)", x.far(0, 0, 9), -1);
        Checks.lie("far for 9", x);
    }

    private static void parts() {
        LaneDoors x = Checks.town(RING);
        Checks.due("parts(1, 0)", x.parts(1, 0), 1);
        Checks.due("parts(1, 1)", x.parts(1, 1), 10);
        Checks.due("parts(4, 0)", x.parts(4, 0), 1);
        Checks.due("parts(4, 1)", x.parts(4, 1), 2);
        Checks.due("parts(5, 0)", x.parts(5, 0), 0);
        Checks.due("parts(5, 1)", x.parts(5, 1), 0);
        x.open(0);
        x.open(1);
        Checks.due("parts(3, 0)", x.parts(3, 0), 3);
        Checks.due("parts(3, 1)", x.parts(3, 1), 3);
        Checks.due("parts(0, 0)", x.parts(0, 0), -1);
        Checks.due("parts(9, 0)", x.parts(9, 0), -1);
        Checks.due("parts(1, 2)", x.parts(1, 2), -1);
        Checks.due("parts(1, -1)", x.parts(1, -1), -1);
    }

    private static void needs() {
        LaneDoors x = Checks.town(RING);
        Checks.due("needs in the ring", x.needs(0, 0, 0, 4, 2), 0);
        Checks.lie("needs in the ring", x);
        Checks.due("needs of a broad one", x.needs(0, 0, 0, 4, 3), 3);
        Checks.lie("needs of a broad one", x, 1, 2, 3);
        Checks.due("needs to p", x.needs(1, 1, 2, 1, 1), 2);
        Checks.lie("needs to p", x, 2, 200);
        Checks.due("needs without a way", x.needs(0, 0, 1, 0, 3), -1);
        Checks.lie("needs without a way", x);
        Checks.due("needs to the place itself", x.needs(0, 0, 0, 0, 1), 0);
        LaneDoors first = Checks.town("lane l long 2 wide 1;lane m long 1 wide 1;lane p long 1 wide 1;corner l 0 with m 0;corner p 0 with l 0;");
        Checks.due("needs of the very first place", first.needs(1, 0, 2, 0, 1), 1);
        Checks.lie("needs of the very first place", first, 0);
        Checks.due("needs where a number is too great", first.needs(1, 0, 2, 0, 9), -1);
        Checks.lie("a number too great", first);
        x.open(0);
        Checks.due("needs with a", x.needs(0, 0, 0, 2, 2), 5);
        Checks.lie("needs with a", x, 3, 4, 100, 101, 102);
        Checks.due("needs nowhere", x.needs(0, 5, 0, 0, 1), -1);
        Checks.lie("needs nowhere", x);
    }

    private static void make() {
        LaneDoors x = Checks.town(RING);
        Checks.due("a way already", x.make(0, 0, 0, 4, 2), 0);
        x.open(0);
        x.open(1);
        x.open(2);
        Checks.due("make for 3", x.make(0, 0, 0, 4, 3), 3);
        Checks.due("make for 2 through m", x.make(0, 0, 0, 4, 2), 4);
        Checks.due("make for 1", x.make(0, 0, 0, 4, 1), 0);
        Checks.due("make for 4", x.make(0, 0, 0, 4, 4), -1);
        Checks.due("nothing is done", x.about(3), 7);
        String four = "lane l long 9 wide 1;door a in l at 1 broad 1 left north open;door b in l at 3 broad 1 left north open;"
                + "door c in l at 5 broad 1 left north open;door d in l at 7 broad 1 left north open;";
        LaneDoors y = Checks.town(four);
        Checks.due("three are enough", y.make(0, 0, 0, 6, 1), 7);
        Checks.due("three are not enough", y.make(0, 0, 0, 8, 1), -1);
        LaneDoors tied = Checks.town("lane l long 3 wide 1;door a in l at 1 broad 1 left north tied open;");
        Checks.due("a tied one", tied.make(0, 0, 0, 2, 1), -1);
        // Two ways, each with one door in it: the first door's is the least.
        LaneDoors two = Checks.town("lane l long 3 wide 2;door a in l at 1 broad 1 left north open;door b in l at 1 broad 1 left south open;");
        Checks.due("one of two", two.make(0, 0, 0, 2, 1), 1);
        Checks.due("both", two.make(0, 0, 0, 2, 2), 3);
    }

    private static void wrongOnes() {
        LaneDoors x = Checks.town(RING);
        int[][] places = {{3, 0, 0, 0}, {-1, 0, 0, 0}, {0, 5, 0, 0}, {0, -1, 0, 0}, {0, 0, 3, 0}, {0, 0, -1, 0},
            {0, 0, 1, 3}, {0, 0, 0, -1}};
        for (int[] p : places) {
            Checks.due("way", x.way(p[0], p[1], p[2], p[3], 1), -1);
            Checks.due("needs", x.needs(p[0], p[1], p[2], p[3], 1), -1);
            Checks.due("make", x.make(p[0], p[1], p[2], p[3], 1), -1);
            Checks.due("widest", x.widest(p[0], p[1], p[2], p[3]), -1);
        }
        for (int i = 0; i < 4; i++) {
            Checks.due("spread", x.spread(places[i][0], places[i][1], 1), -1);
            Checks.due("far", x.far(places[i][0], places[i][1], 1), -1);
        }
        for (int n : new int[] {0, 9, -1, Integer.MIN_VALUE, Integer.MAX_VALUE}) {
            Checks.due("way", x.way(0, 0, 0, 1, n), -1);
            Checks.due("needs", x.needs(0, 0, 0, 1, n), -1);
            Checks.due("make", x.make(0, 0, 0, 1, n), -1);
            Checks.due("spread", x.spread(0, 0, n), -1);
            Checks.due("far", x.far(0, 0, n), -1);
        }
    }
}
