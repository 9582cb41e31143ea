/** What the tests of bounds and edges share: worlds made anew for each call, and what a call must leave as it was. */
final class Check {
    static final int BAD = -1002, OTHER = -1003, NOTHING = -1004, STUCK = -1005, FULL = -1006;
    static final int BIG = Integer.MAX_VALUE, SMALL = Integer.MIN_VALUE;

    /** Makes a new object and brings it to where a call is to be tried. */
    interface Maker {
        AddressedToYou make();
    }

    interface Call {
        long of(AddressedToYou x);
    }

    private int wrong = 0;
    private int calls = 0;
    private String part = "";

    void part(String name) {
        part = name;
    }

    void due(String what, long got, long want) {
        calls++;
        if (got != want) fault(what + " answered " + got + ", due is " + want);
    }

    void fault(String what) {
        wrong++;
        System.out.println(part + ": " + what);
    }

    void end(String name) {
        System.out.println(name + ": " + calls + " answers looked at, " + wrong + " not as due");
        if (wrong != 0) System.exit(1);
    }

    /** The call's answer; nothing is changed and nothing refused. */
    void keeps(Maker world, String what, Call call, long want) {
        due(what, call.of(world.make()), want);
        sameBehind(world, what, call, 0);
    }

    /** A refusal: its number, nothing else changed, counted once and under its number alone. */
    void refused(Maker world, int number, String what, Call call) {
        due(what, call.of(world.make()), number);
        sameBehind(world, what, call, number);
    }

    /** Compares an object behind the call with one that did not get it: what is seen, THE TAPE, what is kept. */
    void sameBehind(Maker world, String what, Call call, int refusal) {
        for (int probe = 0; probe < 3; probe++) {
            AddressedToYou x = world.make();
            AddressedToYou y = world.make();
            call.of(x);
            for (int i = 0; i < 5; i++) {
                int more = refusal == BAD - i ? 1 : 0;
                due(what + ", status(" + (12 + i) + ")", x.status(12 + i), y.status(12 + i) + more);
            }
            String seen = probed(x, probe);
            String due = probed(y, probe);
            if (!seen.equals(due)) fault(what + " changed something (" + probe + "):\n  " + seen + "\n  " + due);
        }
    }

    /** Fewer than 300 calls, so that an object stays under its 512 in all. */
    private static String probed(AddressedToYou x, int probe) {
        long first = probe == 1 ? x.coast() : probe == 2 ? x.back() : 0;
        return first + " | " + seen(x);
    }

    static String seen(AddressedToYou x) {
        StringBuilder t = new StringBuilder();
        for (int i = 0; i <= 9; i++) t.append(x.status(i)).append(' ');
        for (int b = 0; b < x.status(0); b++) {
            t.append("| ");
            for (int k = 0; k <= 4; k++) t.append(x.bottleOf(b, k)).append(' ');
        }
        for (int w = 0; w < x.status(1); w++) {
            t.append("| ");
            for (int k = 0; k <= 2; k++) t.append(x.walkerOf(w, k)).append(' ');
        }
        t.append("| ");
        for (int c = 0; c < x.status(2); c++) t.append(x.currentAt(c));
        for (int s = 0; s < 8; s++) {
            int holds = x.holds(s);
            t.append(" | ").append(holds);
            if (holds < 0 || holds > 4) continue;
            for (int i : new int[] {0, 1, 2, 3, 4, 5, 39}) t.append(' ').append(x.element(s, i));
        }
        return t.toString();
    }

    static AddressedToYou fed(AddressedToYou x, String text) {
        for (int i = 0; i < text.length(); i++) x.feed(text.charAt(i));
        return x;
    }

    /** An object behind the reading of a coast. */
    AddressedToYou coast(String text) {
        AddressedToYou x = fed(new AddressedToYou(), text);
        int answer = x.coast();
        if (answer < 0) fault("not read (" + answer + "): " + text);
        return x;
    }

    static AddressedToYou put(AddressedToYou x, int s, int sort, long... v) {
        x.row(s, sort, v.length);
        for (int i = 0; i < v.length; i++) x.set(s, i, v[i]);
        return x;
    }

    /** The currents of cells 0 on, a digit each. */
    static AddressedToYou flows(AddressedToYou x, String digits) {
        for (int c = 0; c < digits.length(); c++) x.current(c, digits.charAt(c) - '0');
        return x;
    }

    static AddressedToYou untouched() {
        return new AddressedToYou();
    }

    /** 20 cells, 3 walkers, 4 bottles (AFLOAT, FOUND, BROKEN, AFLOAT), rows, an image that differs, a tape. */
    static AddressedToYou mixed() {
        AddressedToYou x = new AddressedToYou();
        x.walker(4, 0, 0);
        x.thrown(2, 3, 9, 0);
        x.seed(77);
        x.image();
        x.paves(20);
        x.walker(19, 2, 1);
        x.walker(7, 3, 0);
        x.thrown(5, 0, 4, 0);
        x.thrown(0, 9, 12, 1);
        x.thrown(3, 1, 17, 2);
        x.current(12, 6);
        x.current(9, 4);
        x.current(17, 1);
        x.tell(0, 3);
        x.sends(0, 0, 5);
        x.days(1);
        x.tell(0, 1);
        x.seed(-5);
        put(x, 0, 0, 4, 5, 6, -128, 127, 7);
        x.row(1, 3, 40);
        x.set(1, 39, Long.MIN_VALUE);
        x.show(2, 0);
        x.row(3, 1, 0);
        x.show(6, 3);
        x.row(7, 4, 1);
        return fed(x, "wind 3");
    }

    /** All that there is room for: 30 cells, 6 walkers, 8 bottles, a tape of 250 bytes; the last day, nothing kept. */
    static AddressedToYou full() {
        AddressedToYou x = new AddressedToYou();
        x.paves(30);
        for (int w = 0; w < 6; w++) x.walker(5 * w + 4, w % 4, w % 2);
        for (int b = 0; b < 8; b++) x.thrown(b % 6, b + 2, 29 - 4 * b, b % 6);
        x.current(29, 1);
        x.current(1, 6);
        x.tell(0, 4);
        x.tell(1, 999);
        x.seed(SMALL);
        x.days(1);
        for (int s = 0; s < 8; s++) {
            if (s == 1) x.row(s, 2, 40);
            else x.show(s, 7 - s);
        }
        for (int i = 0; i < 249; i++) x.feed(32);
        x.feed(255);
        return x;
    }
}
