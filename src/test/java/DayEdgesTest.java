/** The document's edges of A DAY, of DAYS in truth, YEARS by draws, SEED, and of what is kept. */
public final class DayEdgesTest {
    private static final Check C = new Check();
    private static final int BAD = Check.BAD, STUCK = Check.STUCK;

    public static void main(String[] args) {
        pushes();
        toughness();
        ends();
        deepDays();
        strolls();
        findings();
        lastDay();
        thrown();
        drawsInTruth();
        drawnOne();
        seeds();
        keeping();
        counting();
        calls512();
        C.end("a day's edges");
    }

    /** Every kind and a by every current, wind and evenness of the day, far from the ends. */
    private static void pushes() {
        C.part("a day: how far each goes, and when it is BROKEN");
        for (int current = 0; current <= 6; current++) for (int wind = 0; wind <= 4; wind++) for (int day : new int[] {0, 1, 998, 999}) {
            AddressedToYou x = new AddressedToYou();
            x.paves(30);
            x.current(12, current);
            x.tell(0, wind);
            x.tell(1, day);
            for (int kind = 0; kind < 6; kind++) for (int a = 0; a <= 9; a++) {
                int water = current - 3, air = wind - 2;
                int goes = kind == 0 || kind == 5 ? water + air : kind == 1 ? water : kind == 3 ? (day == 0 || day == 998 ? water : 0)
                    : kind == 2 ? water + air + air : water + air + air + new int[] {-1, 0, 1}[a % 3];
                int tough = new int[] {3, 5, 4, 5, 4 + a / 3, 99}[kind];
                int next = goes > tough || -goes > tough ? -1 : 12 + goes;
                C.due("next of " + kind + ", " + a + " by " + current + ", " + wind + " on " + day, x.next(kind, a, 12), next);
            }
        }
    }

    private static AddressedToYou one(int kind, int a, int cell, int current, int wind) {
        AddressedToYou x = new AddressedToYou();
        x.walker(cell < 8 ? 15 : 0, 0, 0);
        x.current(cell, current);
        x.tell(0, wind);
        x.thrown(kind, a, cell, 0);
        return x;
    }

    /** In truth and ahead: where it is behind a day, and how. */
    private static void goes(int kind, int a, int cell, int current, int wind, int next, int how) {
        String what = "kind " + kind + ", a " + a + " in " + cell + " by " + current + ", " + wind;
        Check.Maker world = () -> one(kind, a, cell, current, wind);
        C.keeps(world, what + ": ahead, CELL", y -> y.ahead(0, 1, 0), next);
        C.keeps(world, what + ": ahead, how", y -> y.ahead(0, 1, 1), how);
        C.keeps(world, what + ": next", y -> y.next(kind, a, cell), how == 2 ? -1 : next);
        C.keeps(world, what + ": stays", y -> y.stays(kind, a) >> cell & 1, next == cell ? 1 : 0);
        AddressedToYou x = world.make();
        x.days(1);
        C.due(what + ": CELL", x.bottleOf(0, 2), next);
        C.due(what + ": how", x.bottleOf(0, 4), how);
    }

    private static void toughness() {
        C.part("a day: just TOUGH enough either way, and one more");
        goes(0, 0, 8, 6, 2, 11, 0);
        goes(0, 0, 8, 6, 3, 8, 2);
        goes(0, 0, 8, 0, 2, 5, 0);
        goes(0, 0, 8, 0, 1, 8, 2);
        goes(2, 0, 8, 5, 3, 12, 0);
        goes(2, 0, 8, 6, 3, 8, 2);
        goes(2, 0, 8, 1, 1, 4, 0);
        goes(2, 0, 8, 0, 1, 8, 2);
        goes(4, 0, 8, 6, 3, 12, 0);
        goes(4, 0, 8, 5, 4, 8, 2);
        goes(4, 2, 8, 4, 3, 12, 0);
        goes(4, 2, 8, 5, 3, 8, 2);
        goes(4, 3, 8, 5, 4, 13, 0);
        goes(4, 3, 8, 6, 4, 8, 2);
        goes(4, 6, 8, 6, 4, 14, 0);
        goes(4, 7, 8, 6, 4, 8, 2);
        goes(4, 8, 8, 4, 4, 14, 0);
        goes(4, 8, 8, 5, 4, 8, 2);
        goes(4, 9, 8, 1, 0, 1, 0);
        goes(4, 9, 8, 0, 0, 8, 2);
        C.part("a day: never more than they are TOUGH");
        goes(1, 0, 8, 6, 4, 11, 0);
        goes(1, 0, 8, 0, 0, 5, 0);
        goes(3, 0, 8, 6, 4, 11, 0);
        goes(3, 0, 8, 0, 0, 5, 0);
        goes(5, 0, 8, 6, 4, 13, 0);
        goes(5, 0, 8, 0, 0, 3, 0);
    }

    private static void ends() {
        C.part("a day: it doesn't go beyond the last cell either way");
        goes(5, 0, 10, 6, 4, 15, 0);
        goes(5, 0, 11, 6, 4, 15, 0);
        goes(5, 0, 14, 6, 4, 15, 0);
        goes(5, 0, 15, 6, 4, 15, 0);
        goes(5, 0, 5, 0, 0, 0, 0);
        goes(5, 0, 4, 0, 0, 0, 0);
        goes(5, 0, 1, 0, 0, 0, 0);
        goes(5, 0, 0, 0, 0, 0, 0);
        goes(5, 0, 15, 0, 0, 10, 0);
        goes(5, 0, 0, 6, 4, 5, 0);
        C.part("a day: BROKEN by what it would go, though there is no cell");
        goes(0, 0, 15, 6, 3, 15, 2);
        goes(0, 0, 15, 6, 2, 15, 0);
        goes(0, 0, 14, 6, 3, 14, 2);
        goes(0, 0, 0, 0, 1, 0, 2);
        goes(0, 0, 0, 0, 2, 0, 0);
        goes(2, 0, 1, 0, 1, 1, 2);
        C.part("a day: the last cell is the last of those there are now");
        AddressedToYou x = one(5, 0, 14, 6, 4);
        x.paves(17);
        C.due("16 of 17", x.ahead(0, 1, 0), 16);
        x.paves(30);
        C.due("19 of 30", x.ahead(0, 1, 0), 19);
    }

    private static void deepDays() {
        C.part("a day: a DEEP one on even days alone");
        AddressedToYou x = C.coast("walker 15 0 0;bottle 3 0 0 0;current 0 4;current 1 4;current 2 4;current 3 4");
        int[] even = {0, 1, 1, 2, 2, 3};
        int[] odd = {0, 0, 1, 1, 2, 2};
        for (int n = 0; n < 6; n++) C.due("from day 0, behind " + n, x.ahead(0, n, 0), even[n]);
        x.tell(1, 1);
        for (int n = 0; n < 6; n++) C.due("from day 1, behind " + n, x.ahead(0, n, 0), odd[n]);
        x.tell(1, 998);
        C.due("from day 998, behind 1", x.ahead(0, 1, 0), 1);
        C.due("from day 998, behind 60: the days are 999, odd", x.ahead(0, 60, 0), 1);
        C.due("reach", x.reach(0, 1), 1);
        C.due("next", x.next(3, 0, 0), 1);
        x.tell(1, 999);
        C.due("from day 999", x.ahead(0, 60, 0), 0);
        C.due("next", x.next(3, 0, 0), 0);
        C.due("stays", x.stays(3, 0), 65535);
        C.due("settles", x.settles(0), 1);
        x.tell(1, 998);
        x.days(60);
        C.due("in truth, from day 998", x.bottleOf(0, 2), 1);
        x.tell(1, 0);
        x.days(3);
        C.due("in truth, from day 0", x.bottleOf(0, 2), 3);
    }

    private static void walks(int at, int pace, int way, int... where) {
        for (int n = 0; n < where.length; n++) {
            int behind = n;
            Check.Maker world = () -> {
                AddressedToYou x = new AddressedToYou();
                x.walker(at, pace, way);
                return x;
            };
            C.keeps(world, "from " + at + " at " + pace + ", " + way + " behind " + n, y -> y.walks(0, behind), where[n]);
            if (n == 0) continue;
            AddressedToYou x = world.make();
            x.days(n);
            C.due("in truth, from " + at + " at " + pace + ", " + way + " behind " + n, x.walkerOf(0, 0), where[n]);
        }
    }

    private static void strolls() {
        C.part("a day: walkers turn where there is no cell their way");
        walks(5, 0, 0, 5, 5, 5);
        walks(15, 0, 0, 15, 15);
        walks(0, 0, 1, 0, 0);
        walks(13, 1, 0, 13, 14, 15, 14, 13);
        walks(2, 1, 1, 2, 1, 0, 1, 2);
        walks(15, 1, 0, 15, 14);
        walks(15, 1, 1, 15, 14);
        walks(0, 1, 1, 0, 1);
        walks(0, 1, 0, 0, 1);
        walks(14, 2, 0, 14, 14, 12);
        walks(13, 2, 0, 13, 15, 13);
        walks(1, 2, 1, 1, 1, 3);
        walks(12, 3, 0, 12, 15, 12);
        walks(13, 3, 0, 13, 14, 11);
        walks(14, 3, 0, 14, 13, 10);
        walks(15, 3, 0, 15, 12);
        walks(1, 3, 1, 1, 2, 5);
        walks(2, 3, 1, 2, 1, 4);
        C.part("a day: the way turns with the step behind the end, not at it");
        AddressedToYou x = C.coast("walker 14 1 0;walker 1 1 1;walker 15 0 0;walker 0 0 1");
        x.days(1);
        int[] way = {0, 1, 0, 1};
        for (int w = 0; w < 4; w++) C.due("WAY at the end", x.walkerOf(w, 2), way[w]);
        x.days(1);
        int[] turned = {1, 0, 0, 1};
        for (int w = 0; w < 4; w++) C.due("WAY behind it", x.walkerOf(w, 2), turned[w]);
        C.part("a day: walkers at the end of a coast of 30 cells");
        x = C.coast("cells 30;walker 28 3 0;walker 27 2 0");
        x.days(1);
        C.due("AT", x.walkerOf(0, 0), 27);
        C.due("AT", x.walkerOf(1, 0), 29);
    }

    /** A bottle and a walker: whether it is FOUND behind one day, in truth, ahead and thought of. */
    private static void meetOnce(String what, String coast, int how) {
        Check.Maker world = () -> C.coast(coast);
        C.keeps(world, what + ": ahead", y -> y.ahead(0, 1, 1), how);
        C.keeps(world, what + ": found", y -> y.found(1), how == 1 ? 1 : 0);
        C.keeps(world, what + ": pairs", y -> y.pairs(1, -2), how == 1 ? 1 : 0);
        C.keeps(world, what + ": not now", y -> y.found(0), 0);
        AddressedToYou x = world.make();
        C.due(what + ": ANSWERED", x.days(1), how == 1 ? 1 : 0);
        C.due(what + ": how", x.bottleOf(0, 4), how);
    }

    private static void findings() {
        C.part("a day: FOUND at its end alone, in one cell");
        meetOnce("it stays where he stands", "walker 5 0 0;bottle 0 0 5 0", 1);
        meetOnce("it goes from where he stands", "walker 5 0 0;bottle 0 0 5 0;wind 3", 0);
        meetOnce("it comes where he stands", "walker 5 0 0;bottle 0 0 4 0;wind 3", 1);
        meetOnce("he comes where it stays", "walker 5 3 0;bottle 0 0 8 0", 1);
        meetOnce("they pass each other", "walker 6 1 1;bottle 0 0 5 0;wind 3", 0);
        meetOnce("they come to one cell", "walker 7 1 1;bottle 0 0 5 0;wind 3", 1);
        meetOnce("it comes where he was", "walker 6 1 0;bottle 0 0 5 0;wind 3", 0);
        meetOnce("he comes where it was", "walker 4 1 0;bottle 0 0 5 0;wind 3", 0);
        meetOnce("they go side by side", "walker 5 1 0;bottle 0 0 5 0;wind 3", 1);
        meetOnce("he goes over it", "walker 5 3 0;bottle 0 0 7 0", 0);
        meetOnce("it goes over him", "walker 5 0 0;bottle 5 0 3 0;wind 4;current 3 6", 0);
        meetOnce("at the last cell", "walker 14 1 0;bottle 5 0 13 0;wind 4;current 13 6", 1);
        meetOnce("at the first cell", "walker 1 1 1;bottle 5 0 2 0;wind 0;current 2 0", 1);
        meetOnce("it is BROKEN where he stands", "walker 5 0 0;bottle 0 0 5 0;wind 4;current 5 6", 2);
        meetOnce("he turns and is back where it is", "walker 14 2 0;bottle 0 0 14 0", 1);
        C.part("a day: by the one it's for alone");
        AddressedToYou x = C.coast("walker 5 0 0;walker 9 0 0;bottle 0 0 5 1;bottle 0 0 9 0");
        C.due("ANSWERED", x.days(60), 0);
        C.due("AFLOAT", x.who(0), 3);
        C.part("a day: each that is so, each counted once");
        x = C.coast("walker 5 0 0;walker 5 0 0;bottle 0 0 5 1;bottle 1 0 5 0;bottle 2 0 5 0;bottle 3 0 6 0");
        C.due("ANSWERED", x.days(1), 3);
        C.due("FOUND", x.who(1), 7);
        C.due("ANSWERED, not again", x.days(1), 3);
        C.due("found, not again", x.found(60), 0);
        x.sends(0, 0, 6);
        C.due("ANSWERED in all", x.days(60), 4);
        C.part("a day: one FOUND, one BROKEN stays where it was");
        x = C.coast("walker 5 3 0;bottle 0 0 8 0;bottle 0 0 12 0;current 12 6;wind 3");
        x.tell(0, 2);
        x.current(12, 3);
        x.days(1);
        C.due("FOUND", x.bottleOf(0, 4), 1);
        x.tell(0, 4);
        x.current(12, 6);
        x.days(60);
        C.due("FOUND, its CELL", x.bottleOf(0, 2), 8);
        C.due("BROKEN", x.bottleOf(1, 4), 2);
        C.due("BROKEN, its CELL", x.bottleOf(1, 2), 12);
    }

    private static void lastDay() {
        C.part("a day: DAY is 1 more, 999 at most");
        AddressedToYou x = new AddressedToYou();
        x.days(1);
        C.due("1", x.status(4), 1);
        x.days(60);
        C.due("61", x.status(4), 61);
        C.due("tell", x.tell(1, 997), 61);
        int[] days = {998, 999, 999, 999};
        for (int day : days) { x.days(1); C.due("DAY", x.status(4), day); }
        x.tell(1, 940);
        x.days(60);
        C.due("940 and 60", x.status(4), 999);
        x.tell(1, 939);
        x.days(60);
        C.due("939 and 60", x.status(4), 999);
        x.tell(1, 938);
        x.days(60);
        C.due("938 and 60", x.status(4), 998);
        x.walker(0, 0, 0);
        x.thrown(0, 0, 0, 0);
        x.drawn(1);
        C.due("drawn, 999", x.status(4), 999);
        x.drawn(60);
        C.due("drawn, 999", x.status(4), 999);
        C.part("days: 60 at once are one, sixty times");
        AddressedToYou one = Check.mixed();
        AddressedToYou all = Check.mixed();
        int answered = 0;
        for (int d = 0; d < 60; d++) answered = one.days(1);
        C.due("ANSWERED", all.days(60), answered);
        if (!Check.seen(one).equals(Check.seen(all))) C.fault("60 days at once are others");
        AddressedToYou x1 = Check.mixed();
        x1.days(1);
        C.due("one day", x1.status(4), 2);
    }

    private static void thrown() {
        C.part("thrown: AFLOAT, even where he stands; each number is the next");
        AddressedToYou x = C.coast("walker 5 0 0;walker 0 0 0");
        C.due("the first", x.thrown(4, 9, 5, 1), 0);
        int[] bottle = {4, 9, 5, 1, 0, 7};
        for (int i = 0; i < bottle.length; i++) C.due("bottleOf " + i, x.bottleOf(0, i), bottle[i]);
        C.due("the second", x.thrown(0, 0, 5, 0), 1);
        C.due("AFLOAT where he stands", x.bottleOf(1, 4), 0);
        C.due("when", x.when(1), 1);
        C.due("ANSWERED is not more", x.status(5), 0);
        C.due("the third", x.thrown(5, 0, 15, 0), 2);
        C.part("thrown: nobody to throw it for");
        C.refused(Check::untouched, BAD, "no walkers", y -> y.thrown(0, 0, 0, 0));
        C.refused(Check::untouched, BAD, "for nobody", y -> y.thrown(0, 0, 0, -1));
    }

    private static int next(int seed) {
        return (int) (seed * 1103515245L + 12345L);
    }

    private static int below(int seed, int n) {
        return (int) ((seed & 0xFFFFFFFFL) / 65536 % n);
    }

    /** HEAVY bottles, all FOUND in cell 5, no currents; the walker stands at 0 then. */
    private static AddressedToYou allFound(int cells, int bottles, int seed) {
        AddressedToYou x = new AddressedToYou();
        x.paves(cells);
        x.walker(5, 0, 0);
        for (int b = 0; b < bottles; b++) x.thrown(1, 0, 5, 0);
        x.days(1);
        x.sends(0, 0, 0);
        x.seed(seed);
        return x;
    }

    private static void drawnOne() {
        C.part("drawn: WIND, BOTTLE, CELL, each a draw; SEED wraps");
        int negative = 0;
        for (int seed : new int[] {0, 1, -1, 2, 5, 77, 1000, -1000, 123456789, Check.BIG, Check.SMALL, 0x7FFF0000, 0x80000001}) {
            for (int cells : new int[] {16, 17, 30}) for (int bottles : new int[] {1, 2, 3, 8}) {
                AddressedToYou x = allFound(cells, bottles, seed);
                int s1 = next(seed), s2 = next(s1), s3 = next(s2);
                if (s1 < 0) negative++;
                int which = below(s2, bottles), cell = below(s3, cells);
                String what = "seed " + seed + ", cells " + cells + ", bottles " + bottles;
                C.due(what + ": drawn", x.drawn(1), cell == 0 ? 1 : 0);
                C.due(what + ": WIND", x.status(3), below(s1, 5));
                C.due(what + ": SEED", x.status(8), s3);
                C.due(what + ": which", x.who(0), cell == 0 ? 0 : 1 << which);
                C.due(what + ": CELL", x.bottleOf(which, 2), cell);
                C.due(what + ": the day passed", x.status(4), 2);
                C.due(what + ": ANSWERED", x.status(5), bottles + (cell == 0 ? 1 : 0));
            }
        }
        C.due("some of the seeds drawn were below 0", negative > 0 ? 1 : 0, 1);
        C.part("drawn: one that is AFLOAT stays where it is; its CELL is drawn in any case");
        for (int seed = 0; seed < 20; seed++) {
            AddressedToYou x = C.coast("walker 0 0 0;bottle 1 0 9 0");
            x.seed(seed);
            C.due("drawn", x.drawn(1), 0);
            C.due("CELL", x.bottleOf(0, 2), 9);
            C.due("SEED", x.status(8), next(next(next(seed))));
        }
        C.part("drawn: the WIND drawn is the day's wind");
        for (int seed = 0; seed < 20; seed++) {
            AddressedToYou x = C.coast("walker 0 0 0;bottle 0 0 9 0");
            x.seed(seed);
            x.drawn(1);
            C.due("CELL", x.bottleOf(0, 2), 9 + below(next(seed), 5) - 2);
        }
        C.part("drawn: one BROKEN is AFLOAT again");
        AddressedToYou x = C.coast("walker 0 0 0;bottle 0 0 9 0;current 9 6;wind 4");
        x.days(1);
        C.due("BROKEN", x.bottleOf(0, 4), 2);
        x.current(9, 3);
        x.seed(4);
        int s1 = next(4), s3 = next(next(s1));
        x.drawn(1);
        int cell = Math.max(0, Math.min(15, below(s3, 16) + below(s1, 5) - 2));
        C.due("CELL", x.bottleOf(0, 2), cell);
        C.due("how", x.bottleOf(0, 4), cell == 0 ? 1 : 0);
    }

    private static void drawsInTruth() {
        C.part("drawn: no bottles");
        C.refused(Check::untouched, STUCK, "one day", y -> y.drawn(1));
        C.refused(Check::untouched, STUCK, "60 days", y -> y.drawn(60));
        C.refused(Check::untouched, BAD, "no day, no bottles", y -> y.drawn(0));
        C.refused(Check::untouched, BAD, "61 days, no bottles", y -> y.drawn(61));
        C.refused(() -> C.coast("walker 0 0 0"), STUCK, "a walker, no bottles", y -> y.drawn(1));
        C.part("drawn: 60 at once are one, sixty times");
        AddressedToYou one = Check.mixed();
        AddressedToYou all = Check.mixed();
        int answered = one.status(5);
        int sum = 0;
        for (int d = 0; d < 60; d++) sum += one.drawn(1);
        C.due("how many were FOUND", all.drawn(60), sum);
        C.due("not those ahead of it", all.status(5) - answered, sum);
        C.due("more than one", sum > 1 ? 1 : 0, 1);
        if (!Check.seen(one).equals(Check.seen(all))) C.fault("60 drawn at once are others");
    }

    private static void seeds() {
        C.part("seed: any int");
        AddressedToYou x = new AddressedToYou();
        int ahead = 1;
        for (int v : new int[] {0, -1, Check.BIG, Check.SMALL, 1, 65536}) {
            C.due("the one ahead", x.seed(v), ahead);
            C.due("status", x.status(8), v);
            ahead = v;
        }
        C.part("seed: it wraps as an int");
        x = C.coast("walker 0 0 0;bottle 1 0 9 0");
        x.seed(Check.BIG);
        x.drawn(1);
        C.due("status", x.status(8), next(next(next(Check.BIG))));
        C.due("seed", x.seed(1), next(next(next(Check.BIG))));
        x.drawn(1);
        C.due("known", x.status(8), 662824084);
    }

    private static void keeping() {
        C.part("back: nothing was kept");
        C.refused(Check::untouched, STUCK, "a new object", y -> y.back());
        C.refused(Check::full, STUCK, "a full one", y -> y.back());
        C.part("image: of a new object");
        AddressedToYou x = new AddressedToYou();
        C.due("image", x.image(), 1);
        x.paves(30);
        for (int w = 0; w < 6; w++) x.walker(w, 1, 0);
        for (int b = 0; b < 8; b++) { x.thrown(0, 0, 15 + b, b % 6); x.show(b, b); }
        x.current(0, 6);
        x.tell(0, 0);
        x.tell(1, 999);
        x.seed(0);
        x.days(3);
        Check.fed(x, "day 3");
        C.due("back", x.back(), 1);
        int[] status = {0, 0, 16, 2, 0, 0, 0, 5, 1, 0};
        for (int i = 0; i < status.length; i++) C.due("status " + i, x.status(i), status[i]);
        for (int c = 0; c < 16; c++) C.due("currentAt " + c, x.currentAt(c), 3);
        for (int s = 0; s < 8; s++) C.due("a bottle that is no more", x.holds(s), -1);
        C.due("no bottles again", x.drawn(1), STUCK);
        for (int w = 0; w < 6; w++) C.due("room again for a walker", x.walker(w, 0, 0), w);
        for (int b = 0; b < 8; b++) C.due("room again for a bottle", x.thrown(5, 1, 9, 5), b);
        C.due("THE TAPE is as it was ahead of it", x.coast(), 1);
        C.part("back: again, to the same");
        C.due("back", x.back(), 1);
        C.due("BOTTLES", x.status(0), 0);
        C.due("DAY", x.status(4), 0);
        C.part("image: the last one holds");
        x = C.coast("walker 3 1 0;bottle 0 0 9 0");
        x.image();
        x.tell(0, 4);
        x.days(1);
        x.image();
        x.tell(0, 0);
        x.days(7);
        x.back();
        C.due("WIND", x.status(3), 4);
        C.due("DAY", x.status(4), 1);
        C.due("CELL", x.bottleOf(0, 2), 11);
        C.due("AT", x.walkerOf(0, 0), 4);
        C.part("back: shelves hold bottles of the same numbers");
        x = C.coast("walker 3 0 0;bottle 0 0 9 0");
        x.image();
        x.thrown(2, 0, 4, 0);
        x.show(0, 0);
        x.show(1, 1);
        x.row(2, 4, 2);
        x.set(2, 1, 5);
        x.days(1);
        x.status(99);
        x.set(1, 0, 0);
        x.set(4, 0, 0);
        x.who(4);
        x.back();
        C.due("that of the same number", x.holds(0), 10);
        C.due("NOTHING", x.holds(1), -1);
        C.due("a row stays", x.holds(2), 4);
        C.due("its element stays", x.element(2, 1), 1);
        C.due("SHELVES", x.status(9), 2);
        C.due("refusals stay: BAD", x.status(12), 1);
        C.due("refusals stay: OTHER", x.status(13), 1);
        C.due("refusals stay: NOTHING", x.status(14), 1);
        C.due("says of nothing now", x.says(1, 0), Check.NOTHING);
        C.due("a new one of the number", x.thrown(5, 0, 1, 0), 1);
        C.due("its shelf holds nothing still", x.holds(1), -1);
        C.part("back: how each bottle is");
        x = Check.mixed();
        x.image();
        x.drawn(60);
        x.days(60);
        x.back();
        int[] how = {0, 1, 2, 0};
        for (int b = 0; b < 4; b++) C.due("how " + b, x.bottleOf(b, 4), how[b]);
        C.due("ANSWERED", x.status(5), 1);
        C.due("SEED", x.status(8), -5);
        C.part("back: what is done behind it doesn't change what is kept");
        x = C.coast("walker 3 0 0;bottle 0 0 9 0;current 5 5");
        x.image();
        for (int turn = 0; turn < 3; turn++) {
            x.sends(0, 0, 7);
            x.sends(0, 2, 1);
            x.current(5, 0);
            x.current(9, 6);
            x.tell(0, 1);
            x.days(2);
            x.back();
            C.due("AT", x.walkerOf(0, 0), 3);
            C.due("WAY", x.walkerOf(0, 2), 0);
            C.due("CURRENT", x.currentAt(5), 5);
            C.due("CURRENT", x.currentAt(9), 3);
            C.due("CELL", x.bottleOf(0, 2), 9);
            C.due("WIND", x.status(3), 2);
        }
    }

    private static void counting() {
        C.part("status: each refusal under its own number");
        AddressedToYou x = Check.full();
        C.due("BAD", x.paves(31), BAD);
        C.due("BAD", x.coast(), -2249);
        C.due("BAD", x.two(0, 0), BAD);
        for (int i = 0; i < 4; i++) C.due("OTHER", x.set(0, 0, 0), Check.OTHER);
        x.show(0, -1);
        for (int i = 0; i < 5; i++) C.due("NOTHING", x.set(0, 0, 0), Check.NOTHING);
        for (int i = 0; i < 6; i++) C.due("STUCK", x.back(), STUCK);
        for (int i = 0; i < 7; i++) C.due("FULL", x.thrown(0, 0, 0, 0), Check.FULL);
        int[] counts = {3, 4, 5, 6, 7};
        for (int i = 0; i < 5; i++) C.due("status " + (12 + i), x.status(12 + i), counts[i]);
        C.part("status: answers of NONE, of below 0, of no row count no refusal");
        x = C.coast("walker 0 0 0;bottle 1 0 9 0;current 9 0");
        x.when(0);
        x.breaks(0);
        x.element(-1, 0);
        x.element(0, 40);
        x.holds(8);
        x.status(10);
        x.tell(0, 0);
        x.says(0, 0);
        for (int i = 12; i <= 16; i++) C.due("status " + i, x.status(i), i == 14 ? 1 : 0);
        C.part("status: NONE for another what");
        for (int what : new int[] {-1, 10, 11, 17, 18, Check.BIG, Check.SMALL}) {
            C.keeps(Check::mixed, "status " + what, y -> y.status(what), -1);
        }
        C.part("status: SHELVES that hold something, an empty row too");
        x = new AddressedToYou();
        for (int s = 0; s < 8; s++) { x.row(s, 4, 0); C.due("status", x.status(9), s + 1); }
        for (int s = 0; s < 8; s++) { x.show(s, -1); C.due("status", x.status(9), 7 - s); }
    }

    private static void calls512() {
        C.part("an object's 512 calls");
        AddressedToYou x = new AddressedToYou();
        for (int i = 0; i < 511; i++) x.feed(300);
        C.due("the 512th", x.status(12), 511);
        x = new AddressedToYou();
        for (int i = 0; i < 510; i++) x.row(7, 3, 40);
        x.set(7, 39, Long.MIN_VALUE);
        C.due("the 512th", x.element(7, 39), Long.MIN_VALUE);
        x = Check.full();
        x.drawn(60);
        for (int i = 0; i < 100; i++) { x.image(); x.back(); }
        C.due("the bottles", x.status(0), 8);
    }
}
