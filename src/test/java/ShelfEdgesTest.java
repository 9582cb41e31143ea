/** The document's edges of SHELVES, and which refusal is the first where several fit. */
public final class ShelfEdgesTest {
    private static final Check C = new Check();
    private static final int BAD = Check.BAD, OTHER = Check.OTHER, NOTHING = Check.NOTHING;

    public static void main(String[] args) {
        rows();
        lowestBits();
        copies();
        elements();
        held();
        order();
        C.end("the shelves' edges");
    }

    private static void rows() {
        C.part("row: 0 to 40 elements, 0 or not so at first");
        for (int sort = 0; sort <= 4; sort++) {
            AddressedToYou x = new AddressedToYou();
            C.due("row of 40", x.row(0, sort, 40), 1);
            for (int i = 0; i < 40; i++) C.due("element", x.element(0, i), 0);
            C.due("set the first", x.set(0, 0, 1), 1);
            C.due("set the last", x.set(0, 39, 1), 1);
            C.due("the first", x.element(0, 0), 1);
            C.due("the last", x.element(0, 39), 1);
            C.due("the one ahead of it", x.element(0, 38), 0);
            C.due("a new row", x.row(0, sort, 40), 1);
            C.due("the first", x.element(0, 0), 0);
            C.due("the last", x.element(0, 39), 0);
            x.set(0, 39, 1);
            x.row(0, sort, 0);
            C.due("a row of none", x.holds(0), sort);
            C.due("no first", x.element(0, 0), 0);
            C.due("no place", x.set(0, 0, 1), BAD);
            x.row(0, sort, 40);
            C.due("a longer one is new", x.element(0, 39), 0);
            x.row(0, (sort + 1) % 5, 1);
            C.due("another sort", x.holds(0), (sort + 1) % 5);
            C.due("one place", x.set(0, 0, 1), 1);
            C.due("no second", x.set(0, 1, 1), BAD);
        }
        C.part("row: over a bottle, in each shelf");
        AddressedToYou x = Check.full();
        for (int s = 0; s < 8; s++) {
            C.due("row", x.row(s, 2, 3), 1);
            C.due("holds", x.holds(s), 2);
            C.due("the bottles are as they were", x.status(0), 8);
        }
    }

    private static void holdsBits(int sort, long v, long want) {
        AddressedToYou x = new AddressedToYou();
        x.row(0, sort, 3);
        C.due("set", x.set(0, 1, v), 1);
        C.due("sort " + sort + " holds of " + v, x.element(0, 1), want);
        C.due("not its neighbour", x.element(0, 0) + x.element(0, 2), 0);
    }

    private static void lowestBits() {
        C.part("set: what is put in keeps its lowest bits");
        long most = 9223372036854775807L, least = -most - 1;
        long[][] bytes = {{127, 127}, {128, -128}, {-128, -128}, {-129, 127}, {255, -1}, {256, 0}, {257, 1}, {384, -128},
            {32767, -1}, {65536, 0}, {4294967295L, -1}, {most, -1}, {least, 0}};
        for (long[] b : bytes) holdsBits(0, b[0], b[1]);
        long[][] shorts = {{32767, 32767}, {32768, -32768}, {-32768, -32768}, {-32769, 32767}, {65535, -1}, {65536, 0},
            {65537, 1}, {128, 128}, {2147483648L, 0}, {most, -1}, {least, 0}};
        for (long[] b : shorts) holdsBits(1, b[0], b[1]);
        long[][] ints = {{2147483647L, 2147483647L}, {2147483648L, -2147483648L}, {-2147483648L, -2147483648L},
            {-2147483649L, 2147483647L}, {4294967295L, -1}, {4294967296L, 0}, {4294967297L, 1}, {65536, 65536}, {most, -1}, {least, 0}};
        for (long[] b : ints) holdsBits(2, b[0], b[1]);
        long[][] longs = {{most, most}, {least, least}, {4294967296L, 4294967296L}, {-1, -1}, {0, 0}};
        for (long[] b : longs) holdsBits(3, b[0], b[1]);
        C.part("set: of booleans, whether it is not 0");
        long[][] booleans = {{0, 0}, {1, 1}, {2, 1}, {-1, 1}, {256, 1}, {65536, 1}, {4294967296L, 1}, {most, 1}, {least, 1}};
        for (long[] b : booleans) holdsBits(4, b[0], b[1]);
        AddressedToYou x = new AddressedToYou();
        x.row(0, 4, 1);
        x.set(0, 0, 5);
        x.set(0, 0, 0);
        C.due("not so again", x.element(0, 0), 0);
    }

    private static AddressedToYou twoRows() {
        AddressedToYou x = new AddressedToYou();
        Check.put(x, 0, 3, 1, 2, 3, 4, 5);
        Check.put(x, 1, 3, 6, 7, 8);
        x.row(2, 3, 0);
        return x;
    }

    private static void row(AddressedToYou x, int s, long... want) {
        for (int i = 0; i < want.length; i++) C.due("element " + i + " of shelf " + s, x.element(s, i), want[i]);
    }

    private static void copies() {
        C.part("copy: in one row, as they were");
        AddressedToYou x = twoRows();
        C.due("up", x.copy(0, 0, 0, 1, 4), 4);
        row(x, 0, 1, 1, 2, 3, 4);
        x = twoRows();
        C.due("down", x.copy(0, 0, 1, 0, 4), 4);
        row(x, 0, 2, 3, 4, 5, 5);
        x = twoRows();
        C.due("onto itself", x.copy(0, 0, 0, 0, 5), 5);
        row(x, 0, 1, 2, 3, 4, 5);
        C.part("copy: to the last place, and none");
        x = twoRows();
        C.due("the last to the last", x.copy(0, 1, 4, 2, 1), 1);
        row(x, 1, 6, 7, 5);
        C.due("all of the shorter", x.copy(1, 0, 0, 2, 3), 3);
        row(x, 0, 1, 2, 6, 7, 5);
        C.due("none, at both ends", x.copy(0, 1, 5, 3, 0), 0);
        C.due("none, of a row of none", x.copy(2, 2, 0, 0, 0), 0);
        C.due("none, to a row of none", x.copy(0, 2, 0, 0, 0), 0);
        row(x, 0, 1, 2, 6, 7, 5);
        row(x, 1, 6, 7, 5);
        C.part("copy: rows of 40, of each sort");
        for (int sort = 0; sort <= 4; sort++) {
            x = new AddressedToYou();
            x.row(6, sort, 40);
            x.row(7, sort, 40);
            for (int i = 0; i < 40; i++) x.set(6, i, sort == 4 ? i % 3 : -i);
            C.due("copy", x.copy(6, 7, 0, 0, 40), 40);
            for (int i = 0; i < 40; i++) C.due("element", x.element(7, i), sort == 4 ? Math.min(1, i % 3) : -i);
            x.set(6, 0, 1);
            C.due("the one is not the other", x.element(7, 0), 0);
        }
        C.part("copy: places beyond");
        int[][] bad = {{0, 1, 0, 0, 4}, {0, 1, 0, 1, 3}, {0, 1, 3, 0, 3}, {0, 1, 5, 0, 1}, {0, 1, 0, 3, 1}, {0, 1, 6, 0, 0}, {0, 1, 0, 4, 0},
            {0, 1, -1, 0, 1}, {0, 1, 0, -1, 1}, {0, 1, 1, 1, -1}, {2, 0, 0, 0, 1}, {0, 2, 0, 0, 1}, {2, 2, 1, 0, 0},
            {0, 1, Check.BIG, 0, 1}, {0, 1, 1, 0, Check.BIG}, {0, 1, Check.BIG, Check.BIG, 2}, {0, 1, 0, 0, Check.SMALL}, {0, 1, Check.SMALL, 0, Check.SMALL}};
        for (int[] b : bad) {
            C.refused(ShelfEdgesTest::twoRows, BAD, "copy " + java.util.Arrays.toString(b), y -> y.copy(b[0], b[1], b[2], b[3], b[4]));
        }
    }

    private static void elements() {
        C.part("element: 0 where there is none; nothing is refused");
        int[][] none = {{-1, 0}, {8, 0}, {Check.BIG, 0}, {Check.SMALL, 0}, {2, 0}, {4, 0}, {3, 0}, {0, -1}, {0, 6}, {0, 39}, {1, 40}, {1, -1},
            {1, Check.BIG}, {1, Check.SMALL}, {7, 1}};
        for (int[] e : none) C.keeps(Check::mixed, "element " + e[0] + ", " + e[1], y -> y.element(e[0], e[1]), 0);
        C.keeps(Check::mixed, "the last of 40", y -> y.element(1, 39), Long.MIN_VALUE);
        C.keeps(Check::mixed, "a byte below 0", y -> y.element(0, 3), -128);
        C.part("element: nothing is left of a row that a bottle took the place of");
        AddressedToYou x = Check.mixed();
        x.show(0, 2);
        C.due("element", x.element(0, 0), 0);
        x.show(1, -1);
        C.due("element", x.element(1, 39), 0);
    }

    private static void held() {
        C.part("holds: a row by its sort, 10 and the number, NONE");
        AddressedToYou x = Check.full();
        for (int s = 0; s < 8; s++) C.due("holds " + s, x.holds(s), s == 1 ? 2 : 17 - s);
        for (int s : new int[] {-1, 8, Check.BIG, Check.SMALL}) C.keeps(Check::full, "no shelf", y -> y.holds(s), -1);
        C.keeps(Check::mixed, "NOTHING", y -> y.holds(4), -1);
        C.keeps(Check::mixed, "a row of none", y -> y.holds(3), 1);
        C.part("show: one bottle in several shelves; NONE where there is NOTHING");
        for (int s = 0; s < 8; s++) C.due("show", x.show(s, 7), 1);
        for (int s = 0; s < 8; s++) C.due("holds", x.holds(s), 17);
        C.due("show NONE", x.show(7, -1), 1);
        C.due("show NONE again", x.show(7, -1), 1);
        C.due("holds", x.holds(7), -1);
        C.due("SHELVES", x.status(9), 7);
        C.refused(Check::full, BAD, "bottle 8", y -> y.show(1, 8));
        C.refused(Check::untouched, BAD, "no bottles", y -> y.show(1, 0));
        C.refused(Check::untouched, BAD, "NONE in no shelf", y -> y.show(8, -1));
        C.refused(Check::mixed, BAD, "-2 is not NONE", y -> y.show(0, -2));
        C.part("show: the bottle as it is then, not as it was");
        x = C.coast("walker 0 0 0;bottle 0 0 4 0;wind 3");
        x.show(0, 0);
        x.days(3);
        C.due("its CELL", x.says(0, 0), 7);
    }

    /** Shelf 0 a row of 6 bytes, 1 of 40 longs, 2 a bottle, 3 a row of no shorts, 4 NOTHING, 6 a bottle. */
    private static void order() {
        C.part("set: BAD SHELF; OTHER; NOTHING; BAD i");
        C.refused(Check::mixed, BAD, "no shelf, no place", y -> y.set(8, 99, 1));
        C.refused(Check::mixed, OTHER, "a bottle, no place", y -> y.set(2, 99, 1));
        C.refused(Check::mixed, OTHER, "a bottle, a place", y -> y.set(2, 0, 1));
        C.refused(Check::mixed, NOTHING, "NOTHING, no place", y -> y.set(4, -1, 1));
        C.refused(Check::mixed, NOTHING, "NOTHING", y -> y.set(4, 0, 1));
        C.refused(Check::mixed, BAD, "a row, no place", y -> y.set(0, 6, 1));
        C.refused(Check::mixed, BAD, "a row of none", y -> y.set(3, 0, 1));
        C.part("copy: BAD SHELVES; OTHER; NOTHING; BAD the others");
        C.refused(Check::mixed, BAD, "no shelf, a bottle", y -> y.copy(8, 2, 0, 0, 1));
        C.refused(Check::mixed, BAD, "a bottle, no shelf", y -> y.copy(2, -1, 0, 0, 1));
        C.refused(Check::mixed, BAD, "NOTHING, no shelf", y -> y.copy(4, 8, 0, 0, 1));
        C.refused(Check::mixed, OTHER, "a bottle, NOTHING", y -> y.copy(2, 4, 0, 0, 1));
        C.refused(Check::mixed, OTHER, "NOTHING, a bottle", y -> y.copy(4, 2, 0, 0, 1));
        C.refused(Check::mixed, OTHER, "two bottles", y -> y.copy(2, 6, 0, 0, 1));
        C.refused(Check::mixed, OTHER, "one bottle twice", y -> y.copy(2, 2, -1, 0, 1));
        C.refused(Check::mixed, OTHER, "a row, a bottle", y -> y.copy(0, 2, 99, 0, 1));
        C.refused(Check::mixed, OTHER, "a bottle, a row", y -> y.copy(2, 0, 0, 99, 1));
        C.refused(Check::mixed, OTHER, "rows of two sorts", y -> y.copy(0, 1, 0, 0, 1));
        C.refused(Check::mixed, OTHER, "rows of two sorts, no place", y -> y.copy(0, 1, -1, 99, 41));
        C.refused(Check::mixed, OTHER, "rows of two sorts, none", y -> y.copy(3, 1, 0, 0, 0));
        C.refused(Check::mixed, NOTHING, "a row, NOTHING, no place", y -> y.copy(0, 4, -1, 0, 1));
        C.refused(Check::mixed, NOTHING, "NOTHING, a row", y -> y.copy(4, 0, 0, 0, 1));
        C.refused(Check::mixed, NOTHING, "NOTHING twice", y -> y.copy(4, 5, 0, 0, -1));
        C.refused(Check::mixed, NOTHING, "NOTHING, none of it", y -> y.copy(4, 4, 0, 0, 0));
        C.refused(Check::mixed, BAD, "rows, no place", y -> y.copy(0, 0, 6, 0, 1));
        C.part("says: BAD SHELF, KIND; OTHER; NOTHING");
        C.refused(Check::mixed, BAD, "a row, no kind", y -> y.says(0, 6));
        C.refused(Check::mixed, BAD, "NOTHING, no kind", y -> y.says(4, -1));
        C.refused(Check::mixed, BAD, "a bottle, no kind", y -> y.says(2, 6));
        C.refused(Check::mixed, BAD, "no shelf", y -> y.says(8, 0));
        C.refused(Check::mixed, OTHER, "a row", y -> y.says(0, 0));
        C.refused(Check::mixed, OTHER, "a row of none", y -> y.says(3, 0));
        C.refused(Check::mixed, OTHER, "LIGHT as HEAVY", y -> y.says(2, 1));
        C.refused(Check::mixed, OTHER, "LIGHT as KITE, which is under it", y -> y.says(2, 4));
        C.refused(Check::mixed, NOTHING, "NOTHING", y -> y.says(4, 0));
        C.part("fits: BAD SHELF, n, bottle, what; OTHER; NOTHING; BAD: fewer elements");
        C.refused(Check::mixed, BAD, "no shelf", y -> y.fits(8, 1, 0, 0));
        C.refused(Check::mixed, BAD, "a bottle, n 0", y -> y.fits(2, 0, 0, 0));
        C.refused(Check::mixed, BAD, "NOTHING, n 41", y -> y.fits(4, 41, 0, 0));
        C.refused(Check::mixed, BAD, "a bottle, no bottle", y -> y.fits(2, 1, 4, 0));
        C.refused(Check::mixed, BAD, "NOTHING, no what", y -> y.fits(4, 1, 0, 2));
        C.refused(Check::mixed, OTHER, "a bottle", y -> y.fits(2, 40, 0, 1));
        C.refused(Check::mixed, NOTHING, "NOTHING", y -> y.fits(4, 40, 0, 1));
        C.refused(Check::mixed, BAD, "fewer elements", y -> y.fits(0, 7, 0, 0));
        C.refused(Check::mixed, BAD, "no elements", y -> y.fits(3, 1, 0, 0));
        C.keeps(Check::mixed, "as many", y -> y.fits(0, 6, 0, 0), 0);
        C.part("judge: BAD SHELF, n, bottle; OTHER; NOTHING; BAD: fewer elements");
        C.refused(Check::mixed, BAD, "no shelf", y -> y.judge(-1, 0, 0));
        C.refused(Check::mixed, BAD, "a bottle, n -1", y -> y.judge(2, -1, 0));
        C.refused(Check::mixed, BAD, "NOTHING, n 41", y -> y.judge(4, 41, 0));
        C.refused(Check::mixed, BAD, "a bottle, no bottle", y -> y.judge(2, 0, -1));
        C.refused(Check::mixed, OTHER, "a bottle, none told", y -> y.judge(2, 0, 0));
        C.refused(Check::mixed, NOTHING, "NOTHING, none told", y -> y.judge(4, 0, 0));
        C.refused(Check::mixed, BAD, "fewer elements", y -> y.judge(0, 7, 0));
        C.refused(Check::mixed, BAD, "no elements", y -> y.judge(3, 1, 0));
        C.keeps(Check::mixed, "none of none", y -> y.judge(3, 0, 0), -1);
        C.part("sends: a walker's AT, PACE, WAY each by its own bounds");
        C.refused(Check::mixed, BAD, "no walker", y -> y.sends(3, 0, 0));
        C.refused(Check::mixed, BAD, "a cell that is none", y -> y.sends(0, 0, 20));
        C.refused(Check::mixed, BAD, "a pace that is a cell", y -> y.sends(0, 1, 4));
        C.refused(Check::mixed, BAD, "a way that is a pace", y -> y.sends(0, 2, 2));
        C.part("two, join: also the same");
        for (int w = 0; w < 3; w++) { int k = w; C.refused(Check::mixed, BAD, "two", y -> y.two(k, k)); }
        for (int b = 0; b < 4; b++) { int k = b; C.refused(Check::mixed, BAD, "join", y -> y.join(k, k)); }
        C.refused(Check::mixed, BAD, "two that are none, the same", y -> y.two(3, 3));
        C.refused(Check::mixed, BAD, "two that are none, the same", y -> y.join(-1, -1));
    }
}
