/**
 * Every argument of every call: the smallest and the largest value that is taken, those just outside and those far
 * outside, in a new object, in one where all kinds of things are, and in one where there is no room for more.
 */
public final class BoundsTest {
    private static final Check C = new Check();

    private interface Args {
        long of(AddressedToYou x, int[] a);
    }

    private static String world = "";
    private static Check.Maker maker;
    private static int bottles, walkers, cells;

    public static void main(String[] args) {
        enter("a new object", Check::untouched);
        all();
        enter("a mixed one", Check::mixed);
        all();
        enter("a full one", Check::full);
        all();
        C.end("bounds");
    }

    private static void enter(String name, Check.Maker m) {
        world = name;
        maker = m;
        AddressedToYou x = m.make();
        bottles = x.status(0);
        walkers = x.status(1);
        cells = x.status(2);
    }

    private static void all() {
        shelves();
        coast();
        ahead();
        more();
        truth();
    }

    private static void shelves() {
        changes("2 row", "S 0..4 0..40", (x, a) -> x.row(a[0], a[1], a[2]));
        if (maker.make().holds(1) >= 0) {
            changes("3 set", "S 0..39", (x, a) -> x.set(a[0], a[1], 1));
            changes("4 copy", "S S 0..40 0..40 0..40", (x, a) -> x.copy(a[0], a[1], a[2], a[3], a[4]));
            changes("4 copy of one", "0..39 0..39", (x, a) -> x.copy(1, 1, a[0], a[1], 1));
        }
        changes("3 set, any v", "V", (x, a) -> x.row(0, 3, 1) + x.set(0, 0, a[0]) - 1);
        pure("5 element", "V V", (x, a) -> x.element(a[0], a[1]));
        pure("6 holds", "V", (x, a) -> x.holds(a[0]));
        changes("7 show", "S B", (x, a) -> x.show(a[0], a[1]));
        changes("7 show nothing", "S -1..-1", (x, a) -> x.show(a[0], Math.min(a[1], -1)));
        pure("8 says", "S 0..5", (x, a) -> x.says(a[0], a[1]));
    }

    private static void coast() {
        changes("9 paves", cells + "..30", (x, a) -> x.paves(a[0]));
        changes("10 walker", "C 0..3 0..1", (x, a) -> x.walker(a[0], a[1], a[2]));
        changes("11 sends, what", "W 0..2", (x, a) -> x.sends(a[0], a[1], 0));
        changes("11 sends AT", "W C", (x, a) -> x.sends(a[0], 0, a[1]));
        changes("11 sends, PACE", "W 0..3", (x, a) -> x.sends(a[0], 1, a[1]));
        changes("11 sends, WAY", "W 0..1", (x, a) -> x.sends(a[0], 2, a[1]));
        changes("12 current", "C 0..6", (x, a) -> x.current(a[0], a[1]));
        changes("13 tell, what", "0..1", (x, a) -> x.tell(a[0], 0));
        changes("13 tell WIND", "0..4", (x, a) -> x.tell(0, a[0]));
        changes("13 tell DAY", "0..999", (x, a) -> x.tell(1, a[0]));
        changes("14 feed", "0..255", (x, a) -> x.feed(a[0]));
        pure("17 bottleOf", "B 0..5", (x, a) -> x.bottleOf(a[0], a[1]));
        pure("18 walkerOf", "W 0..3", (x, a) -> x.walkerOf(a[0], a[1]));
        pure("19 currentAt", "C", (x, a) -> x.currentAt(a[0]));
    }

    private static void ahead() {
        pure("20 ahead", "B 0..60 0..1", (x, a) -> x.ahead(a[0], a[1], a[2]));
        pure("21 walks", "W 0..60", (x, a) -> x.walks(a[0], a[1]));
        pure("22 found", "0..60", (x, a) -> x.found(a[0]));
        pure("23 when", "B", (x, a) -> x.when(a[0]));
        pure("24 meets", "B W", (x, a) -> x.meets(a[0], a[1]));
        pure("25 finder", "B", (x, a) -> x.finder(a[0]));
        if (walkers != 1) pure("26 two", "W W", (x, a) -> x.two(a[0], a[1]));
        pure("27 aim", "0..5 0..9 W 0..1", (x, a) -> x.aim(a[0], a[1], a[2], a[3]));
        pure("28 walk", "W 1..30 0..1", (x, a) -> x.walk(a[0], a[1], a[2]));
        if (maker.make().holds(1) >= 0) {
            pure("29 fits", "S 1..40 B 0..1", (x, a) -> x.fits(a[0], a[1], a[2], a[3]));
            pure("49 judge", "S 0..40 B", (x, a) -> x.judge(a[0], a[1], a[2]));
        }
        pure("30 from", "B 0..30 C", (x, a) -> x.from(a[0], a[1], a[2]));
        pure("31 pairs", "1..60 -2.." + (bottles - 1), (x, a) -> x.pairs(a[0], a[1]));
        pure("32 mended", "B 0..1", (x, a) -> x.mended(a[0], a[1]));
        pure("33 odds", "B 0..4 0..1", (x, a) -> x.odds(a[0], a[1], a[2]));
        pure("34 windFor", "B", (x, a) -> x.windFor(a[0]));
    }

    private static void more() {
        pure("35 bestWind", "0..60 0..1", (x, a) -> x.bestWind(a[0], a[1]));
        pure("36 who", "0..3", (x, a) -> x.who(a[0]));
        pure("37 there", "C 0..1", (x, a) -> x.there(a[0], a[1]));
        pure("38 settles", "B", (x, a) -> x.settles(a[0]));
        pure("39 reach", "B 0..1", (x, a) -> x.reach(a[0], a[1]));
        pure("40 busiest", "0..1", (x, a) -> x.busiest(a[0]));
        pure("41 round", "W", (x, a) -> x.round(a[0]));
        if (bottles != 1) pure("42 join", "B B", (x, a) -> x.join(a[0], a[1]));
        pure("43 breaks", "B", (x, a) -> x.breaks(a[0]));
        pure("44 first", "W", (x, a) -> x.first(a[0]));
        pure("45 next", "0..5 0..9 C", (x, a) -> x.next(a[0], a[1], a[2]));
        pure("46 stays", "0..5 0..9", (x, a) -> x.stays(a[0], a[1]));
        pure("47 strays", "", (x, a) -> x.strays());
        pure("48 ofKind", "0..5", (x, a) -> x.ofKind(a[0]));
        pure("56 status", "V", (x, a) -> x.status(a[0]));
    }

    private static void truth() {
        changes("50 thrown", "0..5 0..9 C W", (x, a) -> x.thrown(a[0], a[1], a[2], a[3]));
        changes("51 days", "1..60", (x, a) -> x.days(a[0]));
        changes("52 drawn", "1..60", (x, a) -> x.drawn(a[0]));
        changes("53 seed", "V", (x, a) -> { x.seed(a[0]); return x.seed(a[0]) == a[0] ? 1 : 0; });
        changes("15 wipe", "", (x, a) -> x.wipe());
        changes("54 image", "", (x, a) -> x.image());
        changes("55 back", "", (x, a) -> x.back());
    }

    private static void pure(String name, String ranges, Args call) {
        range(name, ranges, true, call);
    }

    private static void changes(String name, String ranges, Args call) {
        range(name, ranges, false, call);
    }

    private static int least(String range) {
        return range.contains("..") ? Integer.parseInt(range.substring(0, range.indexOf(".."))) : range.equals("V") ? Check.SMALL : 0;
    }

    private static int most(String range) {
        switch (range) {
            case "V": return Check.BIG;
            case "S": return 7;
            case "B": return bottles - 1;
            case "W": return walkers - 1;
            case "C": return cells - 1;
            default: return Integer.parseInt(range.substring(range.indexOf("..") + 2));
        }
    }

    /** A value that does with all others: the row of 40 in shelf 1, a bottle and a walker that are neither first nor last. */
    private static int middle(String range) {
        return range.equals("S") ? 1 : range.equals("V") ? 1 : range.length() == 1 ? Math.min(1, most(range)) : least(range);
    }

    private static void range(String name, String ranges, boolean pure, Args call) {
        C.part(name + ", " + world);
        String[] r = ranges.isEmpty() ? new String[0] : ranges.split(" ");
        int[] base = new int[r.length];
        boolean nobody = false;
        for (int i = 0; i < r.length; i++) {
            base[i] = middle(r[i]);
            nobody |= most(r[i]) < least(r[i]);
        }
        if (nobody) {
            for (int i = 0; i < r.length; i++) base[i] = Math.max(base[i], 0);
            bad(name, base, call);
            return;
        }
        if (r.length == 0) taken(name, base, pure, call);
        for (int i = 0; i < r.length; i++) {
            // of two alike (two, join), one may not be the other
            boolean twins = r.length == 2 && r[0].equals(r[1]) && !r[0].equals("V");
            int[] a = base.clone();
            if (twins && walkers + bottles > 0) a[1 - i] = 1;
            a[i] = least(r[i]);
            taken(name, a, pure, call);
            a[i] = most(r[i]);
            taken(name, a, pure, call);
            if (r[i].equals("V")) continue;
            for (int v : new int[] {least(r[i]) - 1, most(r[i]) + 1, Check.SMALL, Check.BIG}) {
                a[i] = v;
                // of a bottle that show is told, -1 is NOTHING
                if (name.equals("7 show") && i == 1 && v == -1) continue;
                if (name.equals("7 show nothing") && i == 1) continue;
                bad(name, a, call);
            }
        }
    }

    private static String told(String name, int[] a) {
        return name + " " + java.util.Arrays.toString(a);
    }

    private static void bad(String name, int[] a, Args call) {
        int[] mine = a.clone();
        C.refused(maker, Check.BAD, told(name, mine), x -> call.of(x, mine));
    }

    private static void taken(String name, int[] a, boolean pure, Args call) {
        int[] mine = a.clone();
        String what = told(name, mine);
        AddressedToYou x = maker.make();
        int before = 0, behind = 0;
        for (int i = 12; i <= 16; i++) before += x.status(i);
        long answer = call.of(x, mine);
        for (int i = 12; i <= 16; i++) behind += x.status(i);
        if (answer == Check.BAD) C.fault(what + " is refused as BAD");
        if (behind != before && (answer > Check.OTHER || answer < Check.FULL)) C.fault(what + " is counted as refused");
        if (answer <= Check.OTHER && answer >= Check.FULL) {
            if (!mayBe(name, answer)) C.fault(what + " is refused: " + answer);
            C.refused(maker, (int) answer, what, y -> call.of(y, mine));
        } else if (pure) {
            C.keeps(maker, what, y -> call.of(y, mine), answer);
        }
    }

    /** What a call in bounds may be refused with, where it is made. */
    private static boolean mayBe(String name, long answer) {
        if (answer == Check.STUCK) return name.startsWith("52") && bottles == 0 || name.startsWith("55") && !world.equals("a mixed one");
        if (answer == Check.FULL) return world.equals("a full one") && (name.startsWith("10") || name.startsWith("14") || name.startsWith("50"));
        return name.startsWith("3 ") || name.startsWith("4 copy") || name.startsWith("8 ") || name.startsWith("29") || name.startsWith("49");
    }
}
