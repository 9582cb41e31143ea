import java.util.function.ToLongFunction;

/** For each promise of the document: ordinary inputs, the edges that it names, and wrong inputs. */
public final class PromisesTest {
    private static int wrong = 0;
    private static String part = "";

    private static final int BAD = -1002, OTHER = -1003, NOTHING = -1004, STUCK = -1005, FULL = -1006;
    private static final int BIG = Integer.MAX_VALUE, SMALL = Integer.MIN_VALUE;

    private static void due(String what, long got, long want) {
        if (got != want) {
            wrong++;
            System.out.println(part + ": " + what + " answered " + got + ", due is " + want);
        }
    }

    /** All that can be seen of an object without changing it, but the refusals. */
    private static String seen(AddressedToYou x) {
        StringBuilder t = new StringBuilder();
        for (int i = 0; i <= 9; i++) t.append(x.status(i)).append(' ');
        for (int i = 0; i < x.status(0); i++) for (int k = 0; k <= 5; k++) t.append(x.bottleOf(i, k)).append(' ');
        for (int i = 0; i < x.status(1); i++) for (int k = 0; k <= 3; k++) t.append(x.walkerOf(i, k)).append(' ');
        for (int c = 0; c < x.status(2); c++) t.append(x.currentAt(c)).append(' ');
        for (int s = 0; s < 8; s++) {
            t.append(x.holds(s)).append(':');
            for (int i = 0; i < 40; i++) t.append(x.element(s, i)).append(' ');
        }
        return t.toString();
    }

    /** A refusal: its number, nothing else changed, counted once and under its number alone. */
    private static void refused(AddressedToYou x, int number, String what, ToLongFunction<AddressedToYou> call) {
        String before = seen(x);
        int[] counts = new int[5];
        for (int i = 0; i < 5; i++) counts[i] = x.status(12 + i);
        due(what, call.applyAsLong(x), number);
        if (!seen(x).equals(before)) { wrong++; System.out.println(part + ": " + what + " changed something"); }
        for (int i = 0; i < 5; i++) {
            due(what + ", status(" + (12 + i) + ")", x.status(12 + i), counts[i] + (BAD - i == number ? 1 : 0));
        }
    }

    private static void pure(AddressedToYou x, String what, ToLongFunction<AddressedToYou> call, long want) {
        String before = seen(x);
        due(what, call.applyAsLong(x), want);
        if (!seen(x).equals(before)) { wrong++; System.out.println(part + ": " + what + " changed something"); }
    }

    private static void type(AddressedToYou x, String text) {
        for (int i = 0; i < text.length(); i++) x.feed(text.charAt(i));
    }

    private static void reads(String text, int want) {
        AddressedToYou x = new AddressedToYou();
        type(x, text);
        due("coast of \"" + text + "\"", x.coast(), want);
        due("tape's size behind it", x.status(7), 0);
        due("BAD counted", x.status(12), want <= -2000 ? 1 : 0);
        if (want <= -2000) {
            AddressedToYou y = new AddressedToYou();
            if (!seen(x).equals(seen(y))) { wrong++; System.out.println("\"" + text + "\" changed something"); }
        }
    }

    private static AddressedToYou withTape(String text) {
        AddressedToYou x = new AddressedToYou();
        type(x, text);
        int answer = x.coast();
        if (answer < 0) { wrong++; System.out.println("not read: " + text + ": " + answer); }
        return x;
    }

    public static void main(String[] args) {
        newObject(); rows(); copies(); shown(); saying(); paving(); walkers(); currents(); tapes(); coasts();
        tellings(); ahead(); meeting(); aiming(); walking(); fitting(); coming(); pairing(); mending(); chances();
        winds(); lists(); tracks(); judging(); kinds(); truth(); drawing(); keeping(); counting();
        System.out.println(wrong == 0 ? "all promises hold" : wrong + " answers are not as due");
        if (wrong != 0) System.exit(1);
    }

    private static void newObject() {
        part = "1 a new object";
        AddressedToYou x = new AddressedToYou();
        long[] want = {0, 0, 16, 2, 0, 0, 0, 0, 1, 0, -1, -1, 0, 0, 0, 0, 0, -1};
        for (int i = 0; i < want.length; i++) due("status(" + i + ")", x.status(i), want[i]);
        for (int s = 0; s < 8; s++) due("holds(" + s + ")", x.holds(s), -1);
        for (int c = 0; c < 16; c++) due("currentAt(" + c + ")", x.currentAt(c), 3);
        due("NONE", AddressedToYou.NONE, -1);
    }

    private static void rows() {
        part = "2 row";
        AddressedToYou x = new AddressedToYou();
        for (int sort = 0; sort <= 4; sort++) {
            due("row", x.row(sort, sort, 40), 1);
            due("holds", x.holds(sort), sort);
            due("element", x.element(sort, 39), 0);
        }
        due("row of none", x.row(7, 3, 0), 1);
        due("status(9)", x.status(9), 6);
        for (int s : new int[] {-1, 8, BIG, SMALL}) refused(x, BAD, "row", y -> y.row(s, 0, 1));
        for (int s : new int[] {-1, 5, BIG, SMALL}) refused(x, BAD, "row", y -> y.row(0, s, 1));
        for (int s : new int[] {-1, 41, BIG, SMALL}) refused(x, BAD, "row", y -> y.row(0, 0, s));
        part = "3 set";
        long[] put = {0, 1, -1, 127, 128, 255, 256, 32768, 65536, 1L << 31, 1L << 32, Long.MAX_VALUE, Long.MIN_VALUE};
        for (long v : put) {
            for (int sort = 0; sort <= 4; sort++) due("set", x.set(sort, 3, v), 1);
            due("a byte", x.element(0, 3), (byte) v);
            due("a short", x.element(1, 3), (short) v);
            due("an int", x.element(2, 3), (int) v);
            due("a long", x.element(3, 3), v);
            due("a boolean", x.element(4, 3), v != 0 ? 1 : 0);
        }
        x.walker(0, 0, 0);
        x.thrown(0, 0, 1, 0);
        x.show(5, 0);
        for (int s : new int[] {-1, 8, BIG, SMALL}) refused(x, BAD, "set", y -> y.set(s, 0, 1));
        refused(x, OTHER, "set", y -> y.set(5, 99, 1));
        refused(x, NOTHING, "set", y -> y.set(6, 99, 1));
        for (int i : new int[] {-1, 40, BIG, SMALL}) refused(x, BAD, "set", y -> y.set(0, i, 1));
        refused(x, BAD, "set", y -> y.set(7, 0, 1));
        due("a new row is empty", x.row(0, 0, 5), 1);
        due("its element", x.element(0, 3), 0);
        part = "5 element";
        pure(x, "element", y -> y.element(0, 5), 0);
        pure(x, "element", y -> y.element(0, -1), 0);
        pure(x, "element", y -> y.element(-1, 0), 0);
        pure(x, "element", y -> y.element(8, 0), 0);
        pure(x, "element", y -> y.element(5, 0), 0);
        pure(x, "element", y -> y.element(6, BIG), 0);
        part = "6 holds";
        due("holds", x.holds(5), 10);
        pure(x, "holds", y -> y.holds(-1), -1);
        pure(x, "holds", y -> y.holds(8), -1);
        due("no more was refused", x.status(12) + x.status(13) + x.status(14), 23);
    }

    private static void copies() {
        part = "4 copy";
        AddressedToYou x = new AddressedToYou();
        x.row(0, 2, 10);
        x.row(1, 2, 6);
        x.row(2, 1, 6);
        for (int i = 0; i < 10; i++) x.set(0, i, i + 1);
        due("copy", x.copy(0, 1, 4, 0, 6), 6);
        due("element", x.element(1, 5), 10);
        due("copy of none", x.copy(0, 1, 10, 6, 0), 0);
        due("copy up", x.copy(0, 0, 0, 2, 8), 8);
        for (int i = 0; i < 10; i++) due("as they were", x.element(0, i), i < 2 ? i + 1 : i - 1);
        due("copy down", x.copy(0, 0, 2, 0, 8), 8);
        for (int i = 0; i < 10; i++) due("as they were", x.element(0, i), i < 8 ? i + 1 : i - 1);
        x.walker(0, 0, 0);
        x.thrown(0, 0, 1, 0);
        x.show(5, 0);
        refused(x, BAD, "copy", y -> y.copy(-1, 5, 0, 0, 1));
        refused(x, BAD, "copy", y -> y.copy(5, 8, 0, 0, 1));
        refused(x, OTHER, "copy", y -> y.copy(5, 6, 0, 0, 1));
        refused(x, OTHER, "copy", y -> y.copy(6, 5, 0, 0, 1));
        refused(x, OTHER, "copy", y -> y.copy(0, 2, 0, 0, 99));
        refused(x, NOTHING, "copy", y -> y.copy(0, 6, 0, 0, 99));
        refused(x, NOTHING, "copy", y -> y.copy(6, 0, -1, 0, 99));
        int[][] bad = {{-1, 0, 1}, {0, -1, 1}, {0, 0, -1}, {0, 0, 7}, {5, 0, 6}, {0, 6, 1}, {BIG, 0, 1}, {0, BIG, BIG},
            {0, 0, BIG}, {1, 1, BIG}, {SMALL, SMALL, SMALL}, {11, 0, 0}, {0, 7, 0}};
        for (int[] b : bad) refused(x, BAD, "copy", y -> y.copy(0, 1, b[0], b[1], b[2]));
    }

    private static void shown() {
        part = "7 show";
        AddressedToYou x = withTape("walker 0 0 0; bottle 0 0 3 0; bottle 1 0 4 0");
        due("show", x.show(2, 1), 1);
        due("holds", x.holds(2), 11);
        x.row(3, 0, 4);
        due("show over a row", x.show(3, 0), 1);
        due("holds", x.holds(3), 10);
        due("show NONE", x.show(2, -1), 1);
        due("holds", x.holds(2), -1);
        due("show NONE again", x.show(2, -1), 1);
        for (int s : new int[] {-1, 8, BIG, SMALL}) refused(x, BAD, "show", y -> y.show(s, 0));
        for (int s : new int[] {-2, 2, BIG, SMALL}) refused(x, BAD, "show", y -> y.show(0, s));
    }

    private static void saying() {
        part = "8 says";
        AddressedToYou x = withTape("walker 0 0 0; bottle 0 0 5 0; bottle 1 0 5 0; bottle 2 0 5 0; bottle 3 0 5 0;"
            + "bottle 4 8 5 0; bottle 5 0 5 0; current 5 6; wind 4");
        int[][] want = {
            {5, OTHER, OTHER, OTHER, OTHER, OTHER}, {5, 3, OTHER, OTHER, OTHER, OTHER},
            {5, OTHER, 7, OTHER, OTHER, OTHER}, {5, 3, OTHER, 3, OTHER, OTHER},
            {5, OTHER, 8, OTHER, 8, OTHER}, {5, OTHER, OTHER, OTHER, OTHER, 5}};
        for (int b = 0; b < 6; b++) {
            x.show(0, b);
            for (int k = 0; k < 6; k++) {
                int kind = k;
                if (want[b][k] == OTHER) refused(x, OTHER, "says " + b + " " + k, y -> y.says(0, kind));
                else pure(x, "says " + b + " " + k, y -> y.says(0, kind), want[b][k]);
            }
        }
        x.tell(1, 1);
        x.show(0, 3);
        pure(x, "a DEEP on an odd day", y -> y.says(0, 1), 0);
        x.days(1);
        x.show(0, 0);
        pure(x, "a BROKEN one's cell", y -> y.says(0, 0), 5);
        x.show(0, 2);
        due("it is BROKEN", x.bottleOf(2, 4), 2);
        pure(x, "a BROKEN one", y -> y.says(0, 2), 7);
        x.row(1, 0, 3);
        refused(x, OTHER, "says of a row", y -> y.says(1, 0));
        refused(x, NOTHING, "says of nothing", y -> y.says(2, 0));
        for (int s : new int[] {-1, 8, BIG, SMALL}) refused(x, BAD, "says", y -> y.says(s, 0));
        for (int s : new int[] {-1, 6, BIG, SMALL}) refused(x, BAD, "says", y -> y.says(2, s));
    }

    private static void paving() {
        part = "9 paves";
        AddressedToYou x = new AddressedToYou();
        due("paves", x.paves(16), 16);
        due("paves", x.paves(20), 16);
        refused(x, BAD, "paves", y -> y.paves(19));
        refused(x, BAD, "paves", y -> y.paves(31));
        refused(x, BAD, "paves", y -> y.paves(SMALL));
        refused(x, BAD, "paves", y -> y.paves(BIG));
        due("current of a new cell", x.currentAt(19), 3);
        refused(x, BAD, "currentAt", y -> y.currentAt(20));
        due("paves", x.paves(30), 20);
        due("status(2)", x.status(2), 30);
    }

    private static void walkers() {
        part = "10 walker";
        AddressedToYou x = new AddressedToYou();
        for (int s : new int[] {-1, 16, BIG, SMALL}) refused(x, BAD, "walker", y -> y.walker(s, 0, 0));
        for (int s : new int[] {-1, 4, BIG, SMALL}) refused(x, BAD, "walker", y -> y.walker(0, s, 0));
        for (int s : new int[] {-1, 2, BIG, SMALL}) refused(x, BAD, "walker", y -> y.walker(0, 0, s));
        for (int k = 0; k < 6; k++) due("walker", x.walker(k + 1, k % 4, k % 2), k);
        refused(x, FULL, "walker", y -> y.walker(0, 0, 0));
        refused(x, BAD, "walker", y -> y.walker(0, 0, 2));
        part = "18 walkerOf";
        pure(x, "AT", y -> y.walkerOf(5, 0), 6);
        pure(x, "PACE", y -> y.walkerOf(5, 1), 1);
        pure(x, "WAY", y -> y.walkerOf(5, 2), 1);
        pure(x, "BOTTLES", y -> y.walkerOf(5, 3), 0);
        x.thrown(0, 0, 0, 5);
        x.thrown(0, 0, 0, 4);
        x.thrown(0, 0, 0, 5);
        pure(x, "BOTTLES", y -> y.walkerOf(5, 3), 5);
        for (int s : new int[] {-1, 6, BIG, SMALL}) refused(x, BAD, "walkerOf", y -> y.walkerOf(s, 0));
        for (int s : new int[] {-1, 4, BIG, SMALL}) refused(x, BAD, "walkerOf", y -> y.walkerOf(0, s));
        part = "11 sends";
        due("AT", x.sends(5, 0, 15), 6);
        due("PACE", x.sends(5, 1, 3), 1);
        due("WAY", x.sends(5, 2, 0), 1);
        due("AT", x.walkerOf(5, 0), 15);
        due("PACE", x.walkerOf(5, 1), 3);
        due("WAY", x.walkerOf(5, 2), 0);
        int[][] bad = {{-1, 0, 0}, {6, 0, 0}, {0, -1, 0}, {0, 3, 0}, {0, 0, -1}, {0, 0, 16}, {0, 1, 4}, {0, 1, -1}, {0, 2, 2}, {0, 2, -1}, {BIG, BIG, BIG}};
        for (int[] b : bad) refused(x, BAD, "sends", y -> y.sends(b[0], b[1], b[2]));
    }

    private static void currents() {
        part = "12 current, 19 currentAt";
        AddressedToYou x = new AddressedToYou();
        due("current", x.current(15, 6), 3);
        due("current", x.current(15, 0), 6);
        pure(x, "currentAt", y -> y.currentAt(15), 0);
        for (int c : new int[] {-1, 16, BIG, SMALL}) {
            refused(x, BAD, "current", y -> y.current(c, 0));
            refused(x, BAD, "currentAt", y -> y.currentAt(c));
        }
        for (int v : new int[] {-1, 7, BIG, SMALL}) refused(x, BAD, "current", y -> y.current(0, v));
        part = "13 tell";
        due("WIND", x.tell(0, 4), 2);
        due("WIND", x.tell(0, 0), 4);
        due("DAY", x.tell(1, 999), 0);
        due("DAY", x.tell(1, 0), 999);
        due("DAY", x.tell(1, 5), 0);
        int[][] bad = {{0, -1}, {0, 5}, {1, -1}, {1, 1000}, {2, 0}, {-1, 0}, {BIG, SMALL}};
        for (int[] b : bad) refused(x, BAD, "tell", y -> y.tell(b[0], b[1]));
    }

    private static void tapes() {
        part = "14 feed, 15 wipe";
        AddressedToYou x = new AddressedToYou();
        for (int v : new int[] {-1, 256, BIG, SMALL}) refused(x, BAD, "feed", y -> y.feed(v));
        due("wipe", x.wipe(), 0);
        for (int i = 0; i < 250; i++) due("feed", x.feed(i), i + 1);
        refused(x, FULL, "feed", y -> y.feed(0));
        refused(x, BAD, "feed", y -> y.feed(256));
        due("wipe", x.wipe(), 250);
        due("status(7)", x.status(7), 0);
        due("feed", x.feed(255), 1);
    }

    private static void coasts() {
        part = "16 coast";
        AddressedToYou x = withTape("cells 20;walker 19 3 1;  bottle4 9 18 0 ; current19 0;wind 4;day 999");
        long[] want = {1, 1, 20, 4, 999, 0, 1, 0, 1, 0};
        for (int i = 0; i < want.length; i++) due("status(" + i + ")", x.status(i), want[i]);
        long[] bottle = {4, 9, 18, 0, 0, 7};
        for (int i = 0; i < bottle.length; i++) due("bottleOf", x.bottleOf(0, i), bottle[i]);
        due("AT", x.walkerOf(0, 0), 19);
        due("current", x.currentAt(19), 0);
        reads("wind 3", 1);
        reads("wind3;day007;cells 016", 3);
        reads("  wind 3  ", 1);
        reads("", -2000);
        reads("   ", -2003);
        reads("wind", -2004);
        reads("wind ", -2005);
        reads("wind 3;", -2007);
        reads("wind 3; ", -2008);
        reads("; wind 3", -2000);
        reads("wind 3;;wind 3", -2007);
        reads("wind 3 wind 3", -2007);
        reads("wind 3 3", -2007);
        reads("wind;", -2004);
        reads("winds 3", -2000);
        reads("win 3", -2000);
        reads("7", -2000);
        reads("Wind 3", -2000);
        reads("wind 3\n", -2006);
        reads("wind -1", -2005);
        reads("wind 0003", -2005);
        reads("windz 3", -2000);
        reads("wind 4", 1);
        reads("wind 5", -2005);
        reads("current 15 6", 1);
        reads("current 16 6", -2008);
        reads("current 15 7", -2011);
        reads("walker 15 3 1", 1);
        reads("walker 15 4 1", -2010);
        reads("walker 15 3 2", -2012);
        reads("walker 0 0 0;bottle 5 9 0 0", 2);
        reads("walker 0 0 0;bottle 6 0 0 0", -2020);
        reads("cells 30", 1);
        reads("cells 31", -2006);
        reads("day 0", 1);
        reads("day 999", 1);
        reads("day 1000", -2004);
        reads("wind w", -2005);
        reads("cells 16;cells 20;cells 19", -2024);
        reads("cells 30;walker 29 0 0", 2);
        reads("walker 16 0 0;cells 30", -2007);
        reads("bottle 0 0 0 0;walker 0 0 0", -2013);
        reads("walker 0 0 0;bottle 0 0 0 1", -2026);
        reads("walker 0 0 0;bottle 0 10 0 0", -2022);
        reads("walker 0 0 0;bottle 0 0 16 0", -2024);
        reads("walker 0 0 0;bottle 0 0 15 0", 2);
        String six = "walker 0 0 0;walker 0 0 0;walker 0 0 0;walker 0 0 0;walker 0 0 0;walker 0 0 0";
        reads(six, 6);
        reads(six + ";walker", -2078);
        reads(six + "; walker 99 9 9", -2079);
        StringBuilder eight = new StringBuilder("walker 0 0 0");
        for (int i = 0; i < 8; i++) eight.append(";bottle 0 0 0 0");
        reads(eight.toString(), 9);
        reads(eight + ";bottle 9", -2000 - eight.length() - 1);
        x = new AddressedToYou();
        x.feed('d'); x.feed('a'); x.feed(233);
        due("a byte that begins none, behind a word that is none", x.coast(), -2000);
        x.feed('d'); x.feed('a'); x.feed('y'); x.feed(233);
        due("a byte that begins none", x.coast(), -2003);
        x = withTape("walker 0 0 0");
        type(x, "walker 1 0 0;wind 9");
        due("all or nothing", x.coast(), -2018);
        due("WALKERS", x.status(1), 1);
        type(x, "bottle 0 0 0 0");
        due("for one that was there", x.coast(), 1);
    }

    private static void tellings() {
        part = "17 bottleOf";
        AddressedToYou x = withTape("walker 0 0 0;walker 3 0 0;bottle 0 1 2 1;bottle 1 0 2 1;bottle 2 0 2 1;bottle 3 0 2 1;"
            + "bottle 4 2 2 1;bottle 4 9 2 1;bottle 5 0 2 1");
        int[] tough = {3, 5, 4, 5, 4, 7, 99};
        for (int b = 0; b < 7; b++) due("TOUGH", x.bottleOf(b, 5), tough[b]);
        long[] want = {0, 1, 2, 1, 0};
        for (int i = 0; i < 5; i++) due("bottleOf", x.bottleOf(0, i), want[i]);
        for (int s : new int[] {-1, 7, BIG, SMALL}) refused(x, BAD, "bottleOf", y -> y.bottleOf(s, 0));
        for (int s : new int[] {-1, 6, BIG, SMALL}) refused(x, BAD, "bottleOf", y -> y.bottleOf(0, s));
    }

    private static void ahead() {
        part = "20 ahead";
        // a BOTTLE up one a day from 4; its walker stands at 7; a LIGHT one breaks in cell 5
        AddressedToYou x = withTape("walker 7 0 0;bottle 0 0 4 0;bottle 2 0 3 0;wind 3;current 5 6");
        x.current(5, 3);
        pure(x, "now", y -> y.ahead(0, 0, 0), 4);
        pure(x, "behind 2", y -> y.ahead(0, 2, 0), 6);
        pure(x, "AFLOAT", y -> y.ahead(0, 2, 1), 0);
        pure(x, "behind 3", y -> y.ahead(0, 3, 0), 7);
        pure(x, "FOUND", y -> y.ahead(0, 3, 1), 1);
        pure(x, "where it was FOUND", y -> y.ahead(0, 60, 0), 7);
        pure(x, "by two a day", y -> y.ahead(1, 2, 0), 7);
        x.current(5, 6);
        pure(x, "where it broke", y -> y.ahead(1, 60, 0), 5);
        pure(x, "BROKEN", y -> y.ahead(1, 60, 1), 2);
        pure(x, "not yet", y -> y.ahead(1, 1, 1), 0);
        int[][] bad = {{-1, 0, 0}, {2, 0, 0}, {0, -1, 0}, {0, 61, 0}, {0, 0, -1}, {0, 0, 2}, {BIG, BIG, BIG}};
        for (int[] b : bad) refused(x, BAD, "ahead", y -> y.ahead(b[0], b[1], b[2]));
        part = "21 walks";
        x.walker(14, 3, 0);
        int[] at = {14, 13, 10, 7, 4, 1, 2, 5};
        for (int n = 0; n < at.length; n++) { int d = n; pure(x, "walks", y -> y.walks(1, d), at[n]); }
        pure(x, "walks", y -> y.walks(0, 60), 7);
        for (int[] b : new int[][] {{-1, 0}, {2, 0}, {0, -1}, {0, 61}}) refused(x, BAD, "walks", y -> y.walks(b[0], b[1]));
        part = "22 found";
        x.current(5, 3);
        x.thrown(0, 0, 7, 0);
        x.sends(1, 1, 0);
        pure(x, "none in none", y -> y.found(0), 0);
        pure(x, "by 2 days", y -> y.found(2), 1);
        pure(x, "by 3 days", y -> y.found(3), 2);
        pure(x, "in 60", y -> y.found(60), 2);
        refused(x, BAD, "found", y -> y.found(-1));
        refused(x, BAD, "found", y -> y.found(61));
        part = "23 when";
        pure(x, "when", y -> y.when(0), 3);
        pure(x, "when", y -> y.when(1), 2);
        pure(x, "when it's where he is, but goes", y -> y.when(2), -1);
        for (int b : new int[] {-1, 3, BIG, SMALL}) refused(x, BAD, "when", y -> y.when(b));
        x.days(2);
        due("ANSWERED", x.status(5), 1);
        pure(x, "now", y -> y.when(1), 0);
        pure(x, "in a day", y -> y.when(0), 1);
        pure(x, "those that were FOUND don't count", y -> y.found(60), 1);
        part = "A DAY: DAY 999";
        x = withTape("walker 0 0 0;bottle 3 0 3 0;current 3 4;current 4 4;current 5 4;day 997");
        due("odd, even, odd, odd", x.ahead(0, 1, 0) * 1000 + x.ahead(0, 2, 0) * 100 + x.ahead(0, 3, 0) * 10 + x.ahead(0, 4, 0), 3444);
        due("days", x.days(60), 0);
        due("DAY", x.status(4), 999);
        due("CELL", x.bottleOf(0, 2), 4);
    }

    private static void meeting() {
        part = "24 meets";
        AddressedToYou x = withTape("walker 5 0 0;walker 8 0 0;walker 8 1 1;bottle 0 0 5 0;bottle 0 0 9 0;wind 3");
        pure(x, "not now", y -> y.meets(0, 0), -1);
        pure(x, "meets", y -> y.meets(0, 1), 3);
        pure(x, "meets", y -> y.meets(0, 2), 23);
        x.thrown(0, 0, 6, 0);
        pure(x, "meets", y -> y.meets(2, 2), 1);
        pure(x, "meets", y -> y.meets(2, 1), 2);
        for (int b : new int[] {-1, 3, BIG, SMALL}) {
            refused(x, BAD, "meets", y -> y.meets(b, 0));
            refused(x, BAD, "meets", y -> y.meets(0, b));
            refused(x, BAD, "finder", y -> y.finder(b));
        }
        part = "25 finder";
        pure(x, "finder", y -> y.finder(2), 2);
        pure(x, "finder", y -> y.finder(0), 1);
        pure(x, "by nobody but one that turns", y -> y.finder(1), 2);
        x.walker(8, 0, 1);
        pure(x, "of several the first", y -> y.finder(0), 1);
        x.sends(1, 0, 7);
        x.sends(2, 1, 0);
        pure(x, "for another", y -> y.meets(0, 1), 2);
        x.sends(0, 0, 6);
        x.days(1);
        due("it's FOUND", x.bottleOf(0, 4), 1);
        pure(x, "not AFLOAT", y -> y.meets(0, 1), -1);
        pure(x, "not AFLOAT", y -> y.finder(0), -1);
        part = "26 two";
        x = withTape("walker 0 0 0;walker 4 2 1;walker 4 0 0;walker 1 2 0");
        pure(x, "two", y -> y.two(0, 1), 2);
        pure(x, "two now", y -> y.two(1, 2), 0);
        pure(x, "two", y -> y.two(1, 0), 2);
        pure(x, "two never", y -> y.two(0, 2), -1);
        AddressedToYou far = withTape("cells 30;walker 0 0 0;walker 1 1 0");
        pure(far, "up and down the whole coast", y -> y.two(0, 1), 57);
        refused(x, BAD, "two", y -> y.two(1, 1));
        for (int b : new int[] {-1, 4, BIG, SMALL}) { refused(x, BAD, "two", y -> y.two(b, 0)); refused(x, BAD, "two", y -> y.two(0, b)); }
        part = "41 round";
        x.walker(5, 3, 1);
        x.walker(0, 1, 0);
        pure(x, "round", y -> y.round(0), 1);
        pure(x, "round", y -> y.round(1), 15);
        pure(x, "round", y -> y.round(4), 10);
        pure(x, "at an end, the other WAY", y -> y.round(5), -1);
        x.sends(5, 2, 1);
        pure(x, "at an end", y -> y.round(5), 30);
        x.paves(30);
        x.sends(5, 0, 5);
        pure(x, "round", y -> y.round(5), 58);
        for (int b : new int[] {-1, 6, BIG, SMALL}) refused(x, BAD, "round", y -> y.round(b));
    }

    private static void aiming() {
        part = "27 aim";
        AddressedToYou x = withTape("walker 7 0 0;wind 3");
        pure(x, "aim", y -> y.aim(0, 0, 0, 0), 6);
        pure(x, "aim", y -> y.aim(0, 0, 0, 1), 1);
        pure(x, "a HEAVY one", y -> y.aim(1, 0, 0, 0), 7);
        pure(x, "a LIGHT one", y -> y.aim(2, 0, 0, 0), 5);
        pure(x, "a KITE", y -> y.aim(4, 2, 0, 0), 4);
        for (int i = 0; i < 8; i++) x.thrown(0, 0, 0, 0);
        pure(x, "a 9th", y -> y.aim(0, 0, 0, 0), 6);
        x.current(6, 6);
        pure(x, "it breaks there", y -> y.aim(0, 0, 0, 0), -1);
        pure(x, "it breaks there", y -> y.aim(0, 0, 0, 1), -1);
        int[][] bad = {{-1, 0, 0, 0}, {6, 0, 0, 0}, {0, -1, 0, 0}, {0, 10, 0, 0}, {0, 0, -1, 0}, {0, 0, 1, 0}, {0, 0, 0, -1}, {0, 0, 0, 2}};
        for (int[] b : bad) refused(x, BAD, "aim", y -> y.aim(b[0], b[1], b[2], b[3]));
    }

    private static void walking() {
        part = "28 walk";
        AddressedToYou x = withTape("walker 5 0 0;walker 0 0 0;bottle 5 0 8 0;bottle 5 0 2 0;bottle 5 0 6 1");
        pure(x, "one", y -> y.walk(0, 1, 1), 1);
        pure(x, "of several the least", y -> y.walk(0, 1, 0), 30);
        pure(x, "both", y -> y.walk(0, 30, 1), 2);
        pure(x, "both", y -> y.walk(0, 30, 0), 10);
        pure(x, "by 3 days", y -> y.walk(0, 3, 0), 10);
        pure(x, "both by 3", y -> y.walk(0, 3, 1), 1);
        pure(x, "not his", y -> y.walk(1, 3, 0), 20);
        x.sends(1, 0, 15);
        pure(x, "none", y -> y.walk(1, 2, 0), 0);
        pure(x, "none", y -> y.walk(1, 2, 1), 0);
        int[][] bad = {{-1, 1, 0}, {2, 1, 0}, {0, 0, 0}, {0, 31, 0}, {0, 1, -1}, {0, 1, 2}};
        for (int[] b : bad) refused(x, BAD, "walk", y -> y.walk(b[0], b[1], b[2]));
    }

    private static void put(AddressedToYou x, int s, int sort, long... v) {
        x.row(s, sort, v.length);
        for (int i = 0; i < v.length; i++) x.set(s, i, v[i]);
    }

    private static void fitting() {
        part = "29 fits";
        AddressedToYou x = withTape("walker 4 0 0;bottle 0 5 9 0;bottle 5 0 3 0;wind 3;current 4 5");
        put(x, 0, 0, 3, 4, 7, 8);
        pure(x, "WINDS, from a cell where it isn't, past the one it's for", y -> y.fits(0, 4, 0, 0), 8);
        pure(x, "KINDS", y -> y.fits(0, 4, 0, 1), 33);
        pure(x, "one element", y -> y.fits(0, 1, 0, 0), 31);
        pure(x, "one element", y -> y.fits(0, 1, 0, 1), 63);
        put(x, 1, 3, 15, 15);
        pure(x, "beyond the end", y -> y.fits(1, 2, 0, 0), 28);
        put(x, 1, 3, 4, 4);
        pure(x, "no wind holds it", y -> y.fits(1, 2, 0, 0), 1);
        x.current(4, 6);
        x.tell(0, 4);
        pure(x, "BROKEN where it stays", y -> y.fits(1, 2, 0, 0), 0);
        put(x, 2, 3, 16, 16);
        pure(x, "no CELL", y -> y.fits(2, 1, 0, 0), 0);
        put(x, 2, 3, 1L << 32, 1L << 32);
        pure(x, "no CELL", y -> y.fits(2, 1, 0, 0), 0);
        put(x, 2, 3, -1);
        pure(x, "no CELL", y -> y.fits(2, 1, 0, 0), 0);
        part = "29 fits, one FOUND, one BROKEN in truth";
        AddressedToYou z = withTape("walker 4 0 0;bottle 0 5 3 0;bottle 0 5 9 0;wind 3;current 9 6");
        z.days(1);
        due("FOUND", z.bottleOf(0, 4), 1);
        due("BROKEN", z.bottleOf(1, 4), 2);
        put(z, 0, 0, 4, 5, 6, 7);
        put(z, 1, 0, 4, 4);
        put(z, 2, 0, 9, 9);
        for (int b = 0; b < 2; b++) {
            int bottle = b;
            pure(z, "WINDS", y -> y.fits(0, 4, bottle, 0), 8);
            pure(z, "KINDS", y -> y.fits(0, 4, bottle, 1), 33);
            pure(z, "WINDS, one element", y -> y.fits(0, 1, bottle, 0), 31);
            pure(z, "KINDS, one element", y -> y.fits(0, 1, bottle, 1), 63);
            pure(z, "it goes, but by no wind", y -> y.fits(1, 2, bottle, 0), 4);
            pure(z, "BROKEN on the way", y -> y.fits(2, 2, bottle, 0), 0);
        }
        part = "29 fits";
        x.show(5, 0);
        for (int s : new int[] {-1, 8, BIG, SMALL}) refused(x, BAD, "fits", y -> y.fits(s, 1, 0, 0));
        for (int n : new int[] {0, 41, BIG, SMALL}) refused(x, BAD, "fits", y -> y.fits(6, n, 0, 0));
        for (int b : new int[] {-1, 2, BIG, SMALL}) {
            refused(x, BAD, "fits", y -> y.fits(5, 1, b, 0));
            refused(x, BAD, "fits", y -> y.fits(5, 1, 0, b));
        }
        refused(x, OTHER, "fits", y -> y.fits(5, 40, 0, 0));
        refused(x, NOTHING, "fits", y -> y.fits(6, 40, 0, 0));
        refused(x, BAD, "fits", y -> y.fits(0, 5, 0, 0));
    }

    private static void coming() {
        part = "30 from";
        AddressedToYou x = withTape("walker 5 0 0;bottle 0 0 0 0;wind 1;current 0 0;current 9 0");
        pure(x, "from", y -> y.from(0, 0, 7), 1 << 7);
        pure(x, "from", y -> y.from(0, 1, 7), 1 << 8);
        pure(x, "past the one it's for", y -> y.from(0, 2, 4), 1 << 6);
        pure(x, "the end; BROKEN in it the next day", y -> y.from(0, 1, 0), 1 << 1);
        pure(x, "broken in 9", y -> y.from(0, 3, 8), 1 << 11 & 0);
        int[][] bad = {{-1, 0, 0}, {1, 0, 0}, {0, -1, 0}, {0, 31, 0}, {0, 0, -1}, {0, 0, 16}};
        for (int[] b : bad) refused(x, BAD, "from", y -> y.from(b[0], b[1], b[2]));
        pure(x, "30 days", y -> y.from(0, 30, 0), 0);
        part = "30 from, one FOUND, one BROKEN in truth";
        x = withTape("walker 4 0 0;bottle 0 0 3 0;bottle 0 0 9 0;wind 3;current 9 6");
        x.days(1);
        due("FOUND", x.bottleOf(0, 4), 1);
        due("BROKEN", x.bottleOf(1, 4), 2);
        for (int b = 0; b < 2; b++) {
            int bottle = b;
            pure(x, "now", y -> y.from(bottle, 0, 4), 1 << 4);
            pure(x, "in a day", y -> y.from(bottle, 1, 4), 1 << 3);
            pure(x, "past the one it's for", y -> y.from(bottle, 3, 5), 1 << 2);
            pure(x, "BROKEN on the way", y -> y.from(bottle, 2, 10), 0);
            pure(x, "at the end", y -> y.from(bottle, 30, 15), 63 << 10);
        }
    }

    private static void pairing() {
        part = "31 pairs";
        AddressedToYou x = withTape("walker 6 0 0;walker 9 0 0;walker 0 0 0;bottle 0 0 5 2;bottle 0 0 3 2;bottle 0 0 8 2;wind 3");
        // meetings: bottle 0: 1, 4; bottle 1: 3, 6; bottle 2: none, 1
        pure(x, "how many", y -> y.pairs(60, -2), 2);
        pure(x, "DAYS", y -> y.pairs(60, -1), 2);
        pure(x, "whom", y -> y.pairs(60, 0), 0);
        pure(x, "whom", y -> y.pairs(60, 1), -1);
        pure(x, "whom", y -> y.pairs(60, 2), 1);
        x.sends(1, 0, 7);
        pure(x, "how many", y -> y.pairs(60, -2), 2);
        pure(x, "DAYS: 1 and 4, or 3 and 2", y -> y.pairs(60, -1), 5);
        pure(x, "of several the first by rows", y -> y.pairs(60, 0), 0);
        pure(x, "of several the first by rows", y -> y.pairs(60, 1), 1);
        pure(x, "by 3 days", y -> y.pairs(3, 0), 1);
        pure(x, "by 3 days", y -> y.pairs(3, 1), 0);
        pure(x, "by 1 day", y -> y.pairs(1, -2), 1);
        pure(x, "by 1 day", y -> y.pairs(1, -1), 1);
        x.sends(0, 0, 15);
        x.sends(1, 0, 0);
        pure(x, "NONE behind all", y -> y.pairs(60, 2), 0);
        int[][] bad = {{0, -2}, {61, -2}, {1, -3}, {1, 3}, {BIG, SMALL}};
        for (int[] b : bad) refused(x, BAD, "pairs", y -> y.pairs(b[0], b[1]));
    }

    private static void mending() {
        part = "32 mended";
        AddressedToYou x = withTape("walker 7 0 0;bottle 0 0 4 0;bottle 1 0 9 0;bottle 5 0 7 0");
        pure(x, "mended", y -> y.mended(0, 0), 46);
        pure(x, "mended", y -> y.mended(0, 1), 1);
        pure(x, "mended", y -> y.mended(1, 0), 91);
        pure(x, "any but its own", y -> y.mended(2, 0), 0);
        x.sends(0, 0, 3);
        pure(x, "by none in a day", y -> y.mended(1, 1), -1);
        pure(x, "by none", y -> y.mended(1, 0), -1);
        x.tell(0, 4);
        x.current(4, 0);
        x.current(9, 0);
        pure(x, "it's as it is", y -> y.mended(0, 1), 1);
        pure(x, "it's as it is", y -> y.mended(0, 0), 0);
        x.days(1);
        due("FOUND", x.bottleOf(0, 4), 1);
        pure(x, "FOUND now", y -> y.mended(0, 1), 0);
        pure(x, "FOUND now", y -> y.mended(0, 0), 0);
        for (int b : new int[] {-1, 3, BIG, SMALL}) { refused(x, BAD, "mended", y -> y.mended(b, 0)); refused(x, BAD, "mended", y -> y.mended(0, b)); }
    }

    private static void chances() {
        part = "33 odds";
        AddressedToYou x = withTape("walker 6 0 0;bottle 0 0 5 0;bottle 1 0 5 0;bottle 2 0 5 0;current 5 4");
        pure(x, "FOUND now", y -> y.odds(0, 0, 0), 0);
        pure(x, "a day", y -> y.odds(0, 1, 0), 200000);
        pure(x, "HEAVY", y -> y.odds(1, 1, 0), 1000000);
        pure(x, "LIGHT, BROKEN", y -> y.odds(2, 1, 1), 200000);
        pure(x, "two days", y -> y.odds(2, 2, 0), 200000 + 40000 * 3);
        x.days(1);
        pure(x, "FOUND now", y -> y.odds(0, 0, 0), 1000000);
        pure(x, "FOUND stays", y -> y.odds(0, 4, 0), 1000000);
        int[][] bad = {{-1, 0, 0}, {3, 0, 0}, {0, -1, 0}, {0, 5, 0}, {0, 0, -1}, {0, 0, 2}};
        for (int[] b : bad) refused(x, BAD, "odds", y -> y.odds(b[0], b[1], b[2]));
    }

    private static void winds() {
        part = "34 windFor";
        AddressedToYou x = withTape("walker 6 0 0;walker 3 0 0;bottle 0 0 4 0;bottle 1 0 4 0;bottle 0 0 4 1;bottle 0 0 5 1");
        pure(x, "windFor", y -> y.windFor(0), 4);
        pure(x, "by none", y -> y.windFor(1), -1);
        pure(x, "windFor", y -> y.windFor(2), 1);
        pure(x, "windFor", y -> y.windFor(3), 0);
        for (int b : new int[] {-1, 4, BIG, SMALL}) refused(x, BAD, "windFor", y -> y.windFor(b));
        part = "35 bestWind";
        pure(x, "most", y -> y.bestWind(60, 0), 1);
        pure(x, "most", y -> y.bestWind(60, 1), 2);
        pure(x, "in a day", y -> y.bestWind(1, 0), 0);
        pure(x, "in a day", y -> y.bestWind(1, 1), 1);
        pure(x, "in none", y -> y.bestWind(0, 0), 0);
        pure(x, "in none", y -> y.bestWind(0, 1), 0);
        int[][] bad = {{-1, 0}, {61, 0}, {0, -1}, {0, 2}};
        for (int[] b : bad) refused(x, BAD, "bestWind", y -> y.bestWind(b[0], b[1]));
    }

    private static void lists() {
        part = "36 who";
        AddressedToYou x = withTape("walker 6 0 0;walker 6 0 0;bottle 0 0 5 0;bottle 0 0 9 0;bottle 1 0 9 1;bottle 5 0 3 1;wind 3;current 9 6");
        pure(x, "AFLOAT", y -> y.who(0), 15);
        pure(x, "will be FOUND", y -> y.who(3), 9);
        x.days(1);
        pure(x, "AFLOAT", y -> y.who(0), 12);
        pure(x, "FOUND", y -> y.who(1), 1);
        pure(x, "BROKEN", y -> y.who(2), 2);
        pure(x, "will be FOUND", y -> y.who(3), 8);
        refused(x, BAD, "who", y -> y.who(-1));
        refused(x, BAD, "who", y -> y.who(4));
        part = "37 there";
        pure(x, "BOTTLES", y -> y.there(12, 0), 4);
        pure(x, "not one BROKEN", y -> y.there(9, 0), 0);
        pure(x, "not one FOUND", y -> y.there(6, 0), 0);
        pure(x, "WALKERS", y -> y.there(6, 1), 3);
        int[][] bad = {{-1, 0}, {16, 0}, {0, -1}, {0, 2}};
        for (int[] b : bad) refused(x, BAD, "there", y -> y.there(b[0], b[1]));
        part = "44 first";
        x = withTape("walker 6 0 0;walker 0 0 0;bottle 0 0 3 0;bottle 2 0 4 0;bottle 2 0 2 0;bottle 1 0 6 1;wind 3");
        pure(x, "first", y -> y.first(0), 1);
        pure(x, "NONE", y -> y.first(1), -1);
        x.days(1);
        pure(x, "of several the first", y -> y.first(0), 2);
        for (int b : new int[] {-1, 2, BIG, SMALL}) refused(x, BAD, "first", y -> y.first(b));
        part = "47 strays";
        pure(x, "strays", y -> y.strays(), 8);
        part = "48 ofKind";
        pure(x, "ofKind", y -> y.ofKind(2), 2);
        pure(x, "just that", y -> y.ofKind(0), 1);
        pure(x, "none", y -> y.ofKind(5), 0);
        for (int k : new int[] {-1, 6, BIG, SMALL}) refused(x, BAD, "ofKind", y -> y.ofKind(k));
    }

    private static void tracks() {
        part = "38 settles";
        AddressedToYou x = withTape("walker 6 0 0;bottle 0 0 12 0;bottle 1 0 3 0;bottle 1 0 7 0;bottle 0 0 1 0;wind 3;current 3 5;current 5 1;current 2 6");
        pure(x, "at the end", y -> y.settles(0), 4);
        pure(x, "to and fro", y -> y.settles(1), 2);
        pure(x, "it stays", y -> y.settles(2), 1);
        pure(x, "BROKEN ahead", y -> y.settles(3), -1);
        part = "39 reach";
        pure(x, "least", y -> y.reach(0, 0), 12);
        pure(x, "greatest", y -> y.reach(0, 1), 15);
        pure(x, "past the one it's for", y -> y.reach(1, 1), 5);
        pure(x, "BROKEN", y -> y.reach(3, 1), 2);
        pure(x, "least", y -> y.reach(3, 0), 1);
        part = "43 breaks";
        pure(x, "breaks", y -> y.breaks(3), 2);
        pure(x, "never", y -> y.breaks(0), -1);
        x.days(2);
        pure(x, "now", y -> y.breaks(3), 0);
        pure(x, "it's BROKEN now", y -> y.settles(3), -1);
        pure(x, "BROKEN now", y -> y.reach(3, 0), 2);
        x.sends(0, 0, 1);
        x.thrown(0, 0, 0, 0);
        pure(x, "FOUND ahead of that", y -> y.breaks(4), -1);
        for (int b : new int[] {-1, 5, BIG, SMALL}) {
            refused(x, BAD, "settles", y -> y.settles(b));
            refused(x, BAD, "breaks", y -> y.breaks(b));
            refused(x, BAD, "reach", y -> y.reach(b, 0));
            refused(x, BAD, "reach", y -> y.reach(0, b));
            refused(x, BAD, "busiest", y -> y.busiest(b));
        }
        part = "40 busiest";
        x = withTape("walker 6 0 0;bottle 0 0 4 0;bottle 0 0 9 0;bottle 2 0 6 0;bottle 1 0 14 0;wind 3");
        pure(x, "the CELL", y -> y.busiest(0), 14);
        pure(x, "how many", y -> y.busiest(1), 4);
        x.tell(0, 2);
        x.sends(0, 0, 0);
        pure(x, "the first of several", y -> y.busiest(0), 4);
        pure(x, "how many", y -> y.busiest(1), 1);
        part = "42 join";
        x = withTape("walker 6 0 0;bottle 0 0 4 0;bottle 1 0 7 0;bottle 5 0 4 0;bottle 2 0 2 0;wind 3");
        pure(x, "past the one they're for", y -> y.join(0, 1), 3);
        pure(x, "now", y -> y.join(0, 2), 0);
        pure(x, "two a day", y -> y.join(3, 0), 2);
        x.current(7, 6);
        pure(x, "BROKEN there later", y -> y.join(0, 1), -1);
        refused(x, BAD, "join", y -> y.join(1, 1));
        for (int b : new int[] {-1, 4, BIG, SMALL}) { refused(x, BAD, "join", y -> y.join(b, 0)); refused(x, BAD, "join", y -> y.join(0, b)); }
    }

    private static void judging() {
        part = "49 judge";
        AddressedToYou x = withTape("walker 6 0 0;bottle 0 0 4 0;wind 3");
        put(x, 0, 0, 5, 6, 6, 6, 7);
        pure(x, "so, till it's FOUND and behind it", y -> y.judge(0, 4, 0), -1);
        pure(x, "none told", y -> y.judge(0, 0, 0), -1);
        pure(x, "the first that isn't so", y -> y.judge(0, 5, 0), 4);
        x.set(0, 0, 4);
        pure(x, "the first that isn't so", y -> y.judge(0, 5, 0), 0);
        x.show(5, 0);
        for (int s : new int[] {-1, 8, BIG, SMALL}) refused(x, BAD, "judge", y -> y.judge(s, 1, 0));
        for (int n : new int[] {-1, 41, BIG, SMALL}) refused(x, BAD, "judge", y -> y.judge(6, n, 0));
        for (int b : new int[] {-1, 1, BIG, SMALL}) refused(x, BAD, "judge", y -> y.judge(5, 1, b));
        refused(x, OTHER, "judge", y -> y.judge(5, 40, 0));
        refused(x, NOTHING, "judge", y -> y.judge(6, 40, 0));
        refused(x, BAD, "judge", y -> y.judge(0, 6, 0));
    }

    private static void kinds() {
        part = "45 next";
        AddressedToYou x = new AddressedToYou();
        x.tell(0, 3);
        x.current(5, 4);
        int[] want = {7, 6, 8, 6, 8, 7};
        for (int k = 0; k < 6; k++) { int kind = k; pure(x, "next " + k, y -> y.next(kind, 1, 5), want[k]); }
        pure(x, "a KITE", y -> y.next(4, 0, 5), 7);
        pure(x, "a KITE", y -> y.next(4, 5, 5), 9);
        x.tell(1, 7);
        pure(x, "a DEEP on an odd day", y -> y.next(3, 1, 5), 5);
        pure(x, "the end", y -> y.next(0, 0, 15), 15);
        x.tell(0, 4);
        x.current(5, 6);
        int[] hard = {-1, 8, -1, 5, -1, 10};
        for (int k = 0; k < 6; k++) { int kind = k; pure(x, "next " + k, y -> y.next(kind, 1, 5), hard[k]); }
        pure(x, "a KITE of 9", y -> y.next(4, 9, 5), 11);
        pure(x, "a KITE of 8", y -> y.next(4, 8, 5), -1);
        int[][] bad = {{-1, 0, 0}, {6, 0, 0}, {0, -1, 0}, {0, 10, 0}, {0, 0, -1}, {0, 0, 16}};
        for (int[] b : bad) refused(x, BAD, "next", y -> y.next(b[0], b[1], b[2]));
        part = "46 stays";
        pure(x, "BROKEN in 5, at the end in 15", y -> y.stays(0, 0), 1 << 5 | 1 << 15);
        pure(x, "a BILL", y -> y.stays(5, 0), 1 << 15);
        pure(x, "a HEAVY one", y -> y.stays(1, 0), 65535 & ~(1 << 5));
        for (int[] b : new int[][] {{-1, 0}, {6, 0}, {0, -1}, {0, 10}}) refused(x, BAD, "stays", y -> y.stays(b[0], b[1]));
        x.paves(30);
        pure(x, "next in a new cell", y -> y.next(0, 0, 16), 18);
        pure(x, "the new end", y -> y.next(0, 0, 29), 29);
        pure(x, "stays at the new end", y -> y.stays(0, 0), 1 << 5 | 1 << 29);
        refused(x, BAD, "next", y -> y.next(0, 0, 30));
    }

    private static void truth() {
        part = "50 thrown";
        AddressedToYou x = new AddressedToYou();
        refused(x, BAD, "thrown", y -> y.thrown(0, 0, 0, 0));
        x.walker(6, 0, 0);
        refused(x, BAD, "thrown", y -> y.thrown(0, 0, 0, -1));
        int[][] bad = {{-1, 0, 0, 0}, {6, 0, 0, 0}, {0, -1, 0, 0}, {0, 10, 0, 0}, {0, 0, -1, 0}, {0, 0, 16, 0}, {0, 0, 0, 1}};
        for (int[] b : bad) refused(x, BAD, "thrown", y -> y.thrown(b[0], b[1], b[2], b[3]));
        for (int i = 0; i < 8; i++) due("thrown", x.thrown(i % 6, 9, 6, 0), i);
        refused(x, FULL, "thrown", y -> y.thrown(0, 0, 0, 0));
        refused(x, BAD, "thrown", y -> y.thrown(0, 0, 0, 1));
        due("AFLOAT, though he is there", x.bottleOf(7, 4), 0);
        part = "51 days";
        for (int n : new int[] {0, -1, 61, BIG, SMALL}) refused(x, BAD, "days", y -> y.days(n));
        due("ANSWERED", x.days(1), 7);
        due("the KITE of 9 goes less 1", x.bottleOf(4, 2), 5);
        due("the others are FOUND", x.who(1), 255 & ~16);
        due("ANSWERED", x.days(60), 7);
        due("DAY", x.status(4), 61);
        x = withTape("walker 14 3 0;walker 3 0 0;bottle 0 0 4 1;bottle 5 0 13 0");
        x.tell(0, 1);
        due("ANSWERED", x.days(1), 1);
        due("AT", x.walkerOf(0, 0), 13);
        due("WAY", x.walkerOf(0, 2), 1);
        due("FOUND in", x.bottleOf(0, 2), 3);
        due("AFLOAT", x.bottleOf(1, 4), 0);
        due("DAY", x.status(4), 1);
    }

    private static void drawing() {
        part = "52 drawn";
        AddressedToYou x = new AddressedToYou();
        refused(x, STUCK, "drawn", y -> y.drawn(1));
        for (int n : new int[] {0, -1, 61, BIG, SMALL}) refused(x, BAD, "drawn", y -> y.drawn(n));
        x.walker(5, 0, 0);
        x.thrown(5, 0, 5, 0);
        x.thrown(5, 0, 6, 0);
        int seed = 7;
        x.seed(seed);
        int[] d = new int[3];
        for (int i = 0; i < 3; i++) {
            seed = seed * 1103515245 + 12345;
            d[i] = (seed >>> 16) % (i == 0 ? 5 : i == 1 ? 2 : 16);
        }
        int foundThen = 0;
        for (int b = 0; b < 2; b++) if (5 + b + d[0] - 2 == 5) foundThen++;
        due("drawn", x.drawn(1), foundThen);
        due("WIND", x.status(3), d[0]);
        due("SEED", x.status(8), seed);
        due("DAY", x.status(4), 1);
        due("ANSWERED", x.status(5), foundThen);
        part = "52 drawn: one that isn't AFLOAT";
        x = withTape("walker 5 3 0;bottle 0 0 5 0;wind 4;current 5 6");
        x.days(1);
        due("BROKEN", x.who(2), 1);
        for (int c = 0; c < 16; c++) x.current(c, 3);
        x.sends(0, 1, 0);
        x.sends(0, 0, 0);
        seed = -5;
        x.seed(seed);
        for (int i = 0; i < 3; i++) {
            seed = seed * 1103515245 + 12345;
            d[i] = (seed >>> 16) % (i == 0 ? 5 : i == 1 ? 1 : 16);
        }
        int cell = Math.max(0, Math.min(15, d[2] + d[0] - 2));
        due("drawn", x.drawn(1), cell == 0 ? 1 : 0);
        due("CELL", x.bottleOf(0, 2), cell);
        due("how it is", x.bottleOf(0, 4), cell == 0 ? 1 : 0);
        part = "53 seed";
        due("seed", x.seed(SMALL), seed);
        due("seed", x.seed(BIG), SMALL);
        due("status(8)", x.status(8), BIG);
    }

    private static void keeping() {
        part = "54 image, 55 back";
        AddressedToYou x = withTape("walker 5 3 0;bottle 0 0 5 0;wind 4");
        refused(x, STUCK, "back", y -> y.back());
        x.show(0, 0);
        x.current(3, 5);
        x.seed(9);
        x.days(2);
        String before = seen(x);
        pure(x, "image", y -> y.image(), 1);
        x.paves(30);
        x.walker(29, 0, 0);
        x.thrown(1, 2, 29, 1);
        x.current(3, 0);
        x.current(29, 0);
        x.show(1, 1);
        x.row(2, 3, 5);
        x.set(2, 0, 77);
        type(x, "wind");
        x.drawn(40);
        x.who(9);
        due("back", x.back(), 1);
        due("a bottle that is no more", x.holds(1), -1);
        due("a bottle that is", x.holds(0), 10);
        due("a row stays", x.element(2, 0), 77);
        due("the tape stays", x.status(7), 4);
        due("refusals stay", x.status(12), 1);
        refused(x, BAD, "no such bottle", y -> y.bottleOf(1, 0));
        x.wipe();
        x.show(2, -1);
        if (!seen(x).equals(before)) { wrong++; System.out.println(part + ": not all is as it was"); }
        x.paves(30);
        due("a cell's current", x.currentAt(29), 3);
        x.thrown(0, 0, 0, 0);
        for (int s = 0; s < 8; s++) x.show(s, 1);
        due("back", x.back(), 1);
        for (int s = 0; s < 8; s++) due("a bottle that is no more", x.holds(s), -1);
        due("SHELVES that hold something", x.status(9), 0);
        x.show(0, 0);
        x.tell(0, 0);
        due("back once more", x.back(), 1);
        if (!seen(x).equals(before)) { wrong++; System.out.println(part + ": not all is as it was once more"); }
    }

    private static void counting() {
        part = "56 status";
        AddressedToYou x = withTape("walker 5 0 0;walker 6 0 0;bottle 5 0 5 0;bottle 0 0 1 0;bottle 1 0 1 1;cells 18;wind 2;day 12");
        x.days(1);
        x.show(3, 1);
        x.row(4, 0, 0);
        x.feed(1);
        x.seed(-3);
        long[] want = {3, 2, 18, 2, 13, 1, 2, 1, -3, 2, -1, -1, 0, 0, 0, 0, 0, -1};
        for (int i = 0; i < want.length; i++) { int k = i; pure(x, "status " + i, y -> y.status(k), want[i]); }
        for (int k : new int[] {-1, 17, BIG, SMALL}) pure(x, "status", y -> y.status(k), -1);
        due("nothing was refused", x.status(12), 0);
        refused(x, BAD, "who", y -> y.who(9));
        refused(x, OTHER, "set", y -> y.set(3, 0, 0));
        refused(x, NOTHING, "set", y -> y.set(0, 0, 0));
        refused(x, STUCK, "back", y -> y.back());
        for (int i = 0; i < 249; i++) x.feed(0);
        refused(x, FULL, "feed", y -> y.feed(0));
    }
}
