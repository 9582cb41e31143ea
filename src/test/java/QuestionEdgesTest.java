/** The document's edges of WHAT COMES OF IT: the first and the last day that count, none, ties, and how a bottle is now. */
public final class QuestionEdgesTest {
    private static final Check C = new Check();

    // LIGHT, 4 up a day, comes to cell 29 behind 5 days; he was there behind 3 and is again behind 61
    private static final String LATE = "cells 30;wind 4;walker 26 1 0;bottle 2 0 10 0";
    // the same of a HEAVY one, which no wind moves
    private static final String LATE_HEAVY = "cells 30;walker 26 1 0;bottle 1 0 20 0;current 20 6;current 23 6;current 26 5;current 28 4";
    // one AFLOAT at 5, one FOUND at 8, one BROKEN at 12; he stands at 8
    private static final String THREE = "walker 8 0 0;walker 0 0 0;bottle 1 0 5 0;bottle 0 0 8 0;bottle 5 0 2 1;bottle 2 0 12 0;current 12 6;wind 3;current 8 2";

    public static void main(String[] args) {
        sixtyDays();
        sixtyDaysForAll();
        now();
        aheads();
        meetings();
        two();
        aims();
        walks();
        fits();
        froms();
        pairs();
        pairsMost();
        mended();
        odds();
        winds();
        settles();
        reach();
        busiest();
        rounds();
        join();
        breaks();
        first();
        judge();
        lists();
        lastDays();
        asThingsStand();
        C.end("the questions' edges");
    }

    private static AddressedToYou dayLater(String coast) {
        AddressedToYou x = C.coast(coast);
        x.days(1);
        return x;
    }

    /** What is answered where it comes behind 61 days, and a day later, where it comes behind 60. */
    private static void late(String coast, String what, Check.Call call, long at61, long at60) {
        C.keeps(() -> C.coast(coast), what + ", behind 61 days", call, at61);
        C.keeps(() -> dayLater(coast), what + ", behind 60 days", call, at60);
    }

    private static void sixtyDays() {
        C.part("60 days count, 61 don't");
        late(LATE, "when", y -> y.when(0), -1, 60);
        late(LATE, "ahead, how", y -> y.ahead(0, 60, 1), 0, 1);
        late(LATE, "ahead, how, a day less", y -> y.ahead(0, 59, 1), 0, 0);
        late(LATE, "found", y -> y.found(60), 0, 1);
        late(LATE, "found, a day less", y -> y.found(59), 0, 0);
        late(LATE, "meets", y -> y.meets(0, 0), -1, 60);
        late(LATE, "finder", y -> y.finder(0), -1, 0);
        late(LATE, "first", y -> y.first(0), -1, 0);
        late(LATE, "who will be FOUND", y -> y.who(3), 0, 1);
        late(LATE, "strays", y -> y.strays(), 1, 0);
        late(LATE, "pairs", y -> y.pairs(60, -2), 0, 1);
        late(LATE, "pairs, DAYS", y -> y.pairs(60, -1), 0, 60);
        late(LATE, "pairs, whom", y -> y.pairs(60, 0), -1, 0);
        late(LATE, "pairs, a day less", y -> y.pairs(59, -2), 0, 0);
        late(LATE_HEAVY, "when", y -> y.when(0), -1, 60);
        late(LATE_HEAVY, "windFor", y -> y.windFor(0), -1, 0);
        late(LATE_HEAVY, "bestWind", y -> y.bestWind(60, 1), 0, 1);
        late(LATE_HEAVY, "bestWind, a day less", y -> y.bestWind(59, 1), 0, 0);
        String still = "cells 30;wind 0;walker 9 3 1;bottle 2 2 15 0";
        late(still, "when", y -> y.when(0), -1, 60);
        late(still, "mended, DAYS", y -> y.mended(0, 1), -1, 60);
        late(still, "mended", y -> y.mended(0, 0), -1, 4);
        AddressedToYou x = C.coast(LATE);
        C.due("in truth, 60 days", x.days(60), 0);
        C.due("in truth, 61 days", x.days(1), 1);
    }

    private static AddressedToYou lateJoin() {
        AddressedToYou x = C.coast("cells 18;wind 1;day 1;walker 0 0 0;bottle 4 2 11 0;bottle 3 0 6 0");
        return Check.flows(x, "026145145555051460");
    }

    private static void sixtyDaysForAll() {
        C.part("60 days count, 61 don't: join");
        C.keeps(QuestionEdgesTest::lateJoin, "join, behind 61 days", y -> y.join(0, 1), -1);
        C.keeps(() -> { AddressedToYou x = lateJoin(); x.days(1); return x; }, "join, behind 60 days", y -> y.join(0, 1), 60);
        C.part("the latest that can be: settles and breaks behind 30 days, round behind 58");
        String up = "cells 30;wind 3;walker 3 0 0;bottle 0 0 0 0";
        C.keeps(() -> C.coast(up), "settles", y -> y.settles(0), 30);
        C.keeps(() -> C.coast("cells 30;wind 3;walker 29 0 0;bottle 0 0 0 0;current 29 6"), "FOUND at the last cell", y -> y.breaks(0), -1);
        C.keeps(() -> C.coast("cells 30;wind 3;walker 0 0 0;bottle 0 0 0 0;current 29 6"), "breaks", y -> y.breaks(0), 30);
        C.keeps(() -> C.coast("cells 30;wind 3;walker 0 0 0;bottle 0 0 0 0;current 29 6"), "settles, BROKEN ahead", y -> y.settles(0), -1);
        C.keeps(() -> C.coast("cells 30;walker 7 1 1"), "round", y -> y.round(0), 58);
        C.keeps(() -> C.coast("cells 30;walker 7 3 1"), "round", y -> y.round(0), 58);
        C.part("a DEEP one, a cell in two days, is over 30 cells behind 58 days");
        Check.Maker deep = () -> Check.flows(C.coast("cells 30;day 1;walker 29 0 0;bottle 3 0 0 0"), "444444444444444444444444444444");
        C.keeps(deep, "reach", y -> y.reach(0, 1), 29);
        C.keeps(deep, "behind 57", y -> y.ahead(0, 57, 0), 28);
        C.keeps(deep, "behind 58", y -> y.ahead(0, 58, 0), 29);
        C.keeps(deep, "when", y -> y.when(0), 58);
        C.keeps(deep, "busiest of all it is in", y -> y.busiest(1), 1);
        C.keeps(deep, "settles, as it stays the first day", y -> y.settles(0), 1);
    }

    private static AddressedToYou three() {
        AddressedToYou x = C.coast(THREE);
        x.sends(0, 0, 7);
        x.current(8, 1);
        x.days(1);
        x.sends(0, 0, 8);
        x.tell(0, 2);
        return x;
    }

    /** Behind three(): bottle 0 AFLOAT at 5, 1 FOUND at 7, 2 AFLOAT at 3, 3 BROKEN at 12; the walkers at 8 and 0, no wind. */
    private static void now() {
        C.part("now: one AFLOAT, FOUND, BROKEN");
        Check.Maker w = QuestionEdgesTest::three;
        int[] how = {0, 1, 0, 2}, cell = {5, 7, 3, 12}, when = {-1, 0, -1, -1}, breaks = {-1, -1, -1, 0}, settles = {1, 1, 1, -1};
        for (int b = 0; b < 4; b++) {
            int k = b;
            C.keeps(w, "how " + b, y -> y.bottleOf(k, 4), how[b]);
            C.keeps(w, "ahead of none, how " + b, y -> y.ahead(k, 0, 1), how[b]);
            C.keeps(w, "ahead of none, CELL " + b, y -> y.ahead(k, 0, 0), cell[b]);
            C.keeps(w, "ahead of 60, how " + b, y -> y.ahead(k, 60, 1), how[b]);
            C.keeps(w, "ahead of 60, CELL " + b, y -> y.ahead(k, 60, 0), cell[b]);
            C.keeps(w, "when " + b, y -> y.when(k), when[b]);
            C.keeps(w, "breaks " + b, y -> y.breaks(k), breaks[b]);
            C.keeps(w, "settles " + b, y -> y.settles(k), settles[b]);
            C.keeps(w, "reach, least " + b, y -> y.reach(k, 0), cell[b]);
            C.keeps(w, "reach, greatest " + b, y -> y.reach(k, 1), cell[b]);
            C.keeps(w, "odds of none, FOUND " + b, y -> y.odds(k, 0, 0), how[b] == 1 ? 1000000 : 0);
            C.keeps(w, "odds of none, BROKEN " + b, y -> y.odds(k, 0, 1), how[b] == 2 ? 1000000 : 0);
            C.keeps(w, "pairs " + b, y -> y.pairs(60, k), -1);
            C.keeps(w, "from, of none " + b, y -> y.from(k, 0, 15), 1 << 15);
        }
        C.keeps(w, "AFLOAT", y -> y.who(0), 5);
        C.keeps(w, "FOUND", y -> y.who(1), 2);
        C.keeps(w, "BROKEN", y -> y.who(2), 8);
        C.keeps(w, "will be FOUND", y -> y.who(3), 0);
        C.keeps(w, "strays", y -> y.strays(), 5);
        C.keeps(w, "there, AFLOAT", y -> y.there(5, 0), 1);
        C.keeps(w, "there, FOUND", y -> y.there(7, 0), 0);
        C.keeps(w, "there, BROKEN", y -> y.there(12, 0), 0);
        C.keeps(w, "mended of one FOUND", y -> y.mended(1, 1), 0);
        C.keeps(w, "mended of one FOUND, the least", y -> y.mended(1, 0), 0);
        C.keeps(w, "mended of one BROKEN", y -> y.mended(3, 1), -1);
        C.keeps(w, "mended of one BROKEN", y -> y.mended(3, 0), -1);
        C.keeps(w, "windFor one FOUND", y -> y.windFor(1), 0);
        C.keeps(w, "windFor one BROKEN", y -> y.windFor(3), -1);
        C.keeps(w, "odds that one FOUND is so", y -> y.odds(1, 4, 0), 1000000);
        C.keeps(w, "odds that one FOUND is BROKEN", y -> y.odds(1, 4, 1), 0);
        C.keeps(w, "odds that one BROKEN is so", y -> y.odds(3, 4, 1), 1000000);
        C.keeps(w, "odds that one BROKEN is FOUND", y -> y.odds(3, 4, 0), 0);
        C.keeps(w, "BOTTLES for him, however they are", y -> y.walkerOf(0, 3), 11);
        C.keeps(w, "of the kind, however they are", y -> y.ofKind(2), 1);
        C.keeps(w, "walk: none AFLOAT on his way is more", y -> y.walk(0, 1, 1), 1);
        C.keeps(w, "first: one FOUND is none", y -> y.first(0), -1);
        C.keeps(w, "join of one FOUND", y -> y.join(0, 1), -1);
        C.keeps(w, "join of one BROKEN", y -> y.join(3, 0), -1);
    }

    private static void aheads() {
        C.part("ahead, found, walks: just behind so many days");
        Check.Maker w = () -> C.coast("walker 9 0 0;walker 0 1 0;bottle 0 0 5 0;bottle 1 0 3 0;current 3 4;current 4 2;wind 3");
        C.keeps(w, "3 days", y -> y.ahead(0, 3, 1), 0);
        C.keeps(w, "4 days", y -> y.ahead(0, 4, 1), 1);
        C.keeps(w, "found in 3", y -> y.found(3), 0);
        C.keeps(w, "found in 4", y -> y.found(4), 1);
        C.keeps(w, "when", y -> y.when(0), 4);
        C.keeps(w, "to and fro, 59", y -> y.ahead(1, 59, 0), 4);
        C.keeps(w, "to and fro, 60", y -> y.ahead(1, 60, 0), 3);
        C.keeps(w, "walks 0", y -> y.walks(1, 0), 0);
        C.keeps(w, "walks 15", y -> y.walks(1, 15), 15);
        C.keeps(w, "walks 16", y -> y.walks(1, 16), 14);
        C.keeps(w, "walks 30", y -> y.walks(1, 30), 0);
        C.keeps(w, "walks 59", y -> y.walks(1, 59), 1);
        C.keeps(w, "walks 60", y -> y.walks(1, 60), 0);
    }

    private static void meetings() {
        C.part("meets: from behind the first day on; it being AFLOAT, were it for nobody");
        Check.Maker w = () -> C.coast("walker 5 0 0;walker 7 0 0;walker 7 0 0;bottle 0 0 5 0;bottle 1 0 5 1;bottle 0 0 2 0;wind 3");
        C.keeps(w, "now doesn't count", y -> y.meets(0, 0), -1);
        C.keeps(w, "it stays", y -> y.meets(1, 0), 1);
        C.keeps(w, "past the one it's for", y -> y.meets(2, 1), 5);
        C.keeps(w, "the one it's for", y -> y.meets(2, 0), 3);
        C.part("finder: who does first, of several the first; for whom it is doesn't matter");
        C.keeps(w, "of several the first", y -> y.finder(0), 1);
        C.keeps(w, "for another", y -> y.finder(1), 0);
        C.keeps(w, "the sooner", y -> y.finder(2), 0);
        C.keeps(() -> C.coast("walker 7 0 0;walker 6 0 0;bottle 0 0 5 0;wind 3"), "the sooner is not the first", y -> y.finder(0), 1);
        C.keeps(() -> C.coast("walker 4 0 0;bottle 0 0 5 0;wind 3"), "nobody", y -> y.finder(0), -1);
        C.part("meets: not one that is BROKEN where he stands");
        Check.Maker broken = () -> C.coast("walker 6 0 0;walker 4 1 0;bottle 0 0 5 0;wind 3;current 6 6");
        C.keeps(broken, "the day ahead of that", y -> y.meets(0, 0), 1);
        C.keeps(broken, "he comes as it is BROKEN, and again", y -> y.meets(0, 1), -1);
        C.keeps(broken, "who does", y -> y.finder(0), 0);
    }

    private static void two() {
        C.part("two: now counts; they don't meet in passing");
        Check.Maker w = () -> C.coast("cells 30;walker 0 0 0;walker 1 1 0;walker 1 3 1;walker 2 2 1");
        C.keeps(w, "the latest there is", y -> y.two(0, 1), 57);
        C.keeps(w, "the other way round", y -> y.two(1, 0), 57);
        C.keeps(w, "now", y -> y.two(1, 2), 0);
        C.keeps(() -> C.coast("walker 5 1 0;walker 6 1 1"), "passing each other", y -> y.two(0, 1), -1);
        C.keeps(() -> C.coast("walker 5 1 0;walker 7 1 1"), "to one cell", y -> y.two(0, 1), 1);
        C.keeps(() -> C.coast("walker 5 3 0;walker 6 0 0"), "over him, time and again", y -> y.two(0, 1), -1);
        C.keeps(() -> C.coast("walker 5 0 0;walker 6 0 0"), "both stand", y -> y.two(0, 1), -1);
    }

    private static void aims() {
        C.part("aim: the soonest, of several the first; NONE");
        Check.Maker w = () -> C.coast("walker 7 0 0;walker 15 0 0;walker 0 0 0;wind 3;current 8 1;current 7 2");
        C.keeps(w, "from 6, 7 and 8", y -> y.aim(0, 0, 0, 0), 6);
        C.keeps(w, "in a day", y -> y.aim(0, 0, 0, 1), 1);
        C.keeps(w, "at the last cell", y -> y.aim(1, 0, 1, 0), 15);
        C.keeps(w, "at the last cell, of several", y -> y.aim(2, 0, 1, 0), 13);
        C.keeps(w, "at the first cell", y -> y.aim(1, 0, 2, 0), 0);
        C.keeps(w, "by none", y -> y.aim(2, 0, 2, 0), -1);
        C.keeps(w, "by none", y -> y.aim(2, 0, 2, 1), -1);
        C.part("aim: not where he stands now, if it goes; and not where it is BROKEN");
        C.keeps(() -> C.coast("walker 7 0 0;wind 3"), "not from 7", y -> y.aim(0, 0, 0, 0), 6);
        C.keeps(() -> C.coast("walker 7 0 0;wind 4;current 5 5"), "from 5 it is BROKEN", y -> y.aim(0, 0, 0, 0), -1);
        C.keeps(() -> C.coast("walker 7 0 0;wind 4;current 5 5"), "from 5 it is BROKEN", y -> y.aim(0, 0, 0, 1), -1);
        C.keeps(() -> C.coast("walker 7 0 0;wind 4;current 5 5;current 6 2"), "from 6", y -> y.aim(0, 0, 0, 0), 6);
        C.part("aim: the latest there is, behind 58 days");
        String late = "cells 30;wind 4;walker 29 3 0";
        C.keeps(() -> Check.flows(C.coast(late), "262464403632012446502350123011"), "DAYS", y -> y.aim(4, 2, 0, 1), 58);
    }

    private static void walks() {
        C.part("walk: just in so many days; of several the least");
        Check.Maker w = () -> C.coast("walker 0 0 0;bottle 0 0 15 0;bottle 0 0 0 0");
        C.keeps(w, "one, standing", y -> y.walk(0, 1, 0), 0);
        C.keeps(w, "one", y -> y.walk(0, 4, 1), 1);
        C.keeps(w, "15 cells in 5 days", y -> y.walk(0, 5, 1), 1);
        Check.Maker far = () -> C.coast("walker 0 0 0;bottle 0 0 15 0");
        C.keeps(far, "in 4 days none", y -> y.walk(0, 4, 1), 0);
        C.keeps(far, "in 4 days none: the least", y -> y.walk(0, 4, 0), 0);
        C.keeps(far, "in 5 days", y -> y.walk(0, 5, 1), 1);
        C.keeps(far, "in 5 days by pace 3", y -> y.walk(0, 5, 0), 30);
        C.keeps(far, "in 14 days by pace 3 still", y -> y.walk(0, 14, 0), 30);
        C.keeps(far, "in 15 days by pace 1", y -> y.walk(0, 15, 0), 10);
        C.part("walk: at an end, either way is one; up is the least");
        C.keeps(() -> C.coast("walker 15 3 0;bottle 0 0 14 0"), "from the last", y -> y.walk(0, 1, 0), 10);
        C.keeps(() -> C.coast("walker 0 3 1;bottle 0 0 1 0"), "from the first", y -> y.walk(0, 1, 0), 10);
        C.keeps(() -> C.coast("walker 5 0 0;bottle 0 0 2 0"), "down alone, pace 3", y -> y.walk(0, 1, 0), 31);
        C.keeps(() -> C.coast("walker 5 0 0;bottle 0 0 4 0"), "down alone, pace 1", y -> y.walk(0, 1, 0), 11);
        C.part("walk: from 30 cells' end in 30 days");
        Check.Maker thirty = () -> C.coast("cells 30;walker 29 0 0;bottle 0 0 1 0;bottle 0 0 29 0");
        C.keeps(thirty, "one in 28", y -> y.walk(0, 28, 1), 1);
        C.keeps(thirty, "both in 29", y -> y.walk(0, 29, 1), 2);
        C.keeps(thirty, "both in 29, by pace 2, turning", y -> y.walk(0, 29, 0), 20);
        Check.Maker there = () -> C.coast("cells 30;walker 28 0 0;bottle 0 0 29 0;bottle 0 0 0 0");
        C.keeps(there, "one, in 29 days", y -> y.walk(0, 29, 1), 1);
        C.keeps(there, "both, in 30 days", y -> y.walk(0, 30, 1), 2);
        C.keeps(there, "both, in 30 days, by pace 1 and up", y -> y.walk(0, 30, 0), 10);
        C.part("walk: neither those for another, nor those found ahead");
        C.keeps(() -> C.coast("walker 5 0 0;walker 0 0 0;bottle 0 0 5 1"), "for another", y -> y.walk(0, 30, 1), 0);
        C.keeps(() -> dayLater("walker 5 0 0;bottle 0 0 5 0"), "FOUND ahead", y -> y.walk(0, 30, 1), 0);
    }

    private static AddressedToYou told(String coast, int sort, long... cells) {
        return Check.put(C.coast(coast), 0, sort, cells);
    }

    private static long[] forty(long v, long last) {
        long[] row = new long[40];
        java.util.Arrays.fill(row, v);
        row[39] = last;
        return row;
    }

    private static void fits() {
        C.part("fits: one element, the first: it's there then, wherever it is");
        String coast = "cells 20;walker 4 0 0;bottle 0 2 9 0;wind 3";
        for (int cell : new int[] {0, 4, 9, 19}) {
            C.keeps(() -> told(coast, 3, cell), "WINDS", y -> y.fits(0, 1, 0, 0), 31);
            C.keeps(() -> told(coast, 3, cell), "KINDS", y -> y.fits(0, 1, 0, 1), 63);
        }
        C.part("fits: the first is no CELL");
        for (long cell : new long[] {-1, 20, 4294967296L, Long.MIN_VALUE, Long.MAX_VALUE}) {
            C.keeps(() -> told(coast, 3, cell), "WINDS", y -> y.fits(0, 1, 0, 0), 0);
            C.keeps(() -> told(coast, 3, cell), "KINDS", y -> y.fits(0, 1, 0, 1), 0);
        }
        C.part("fits: a later one is no CELL");
        for (long cell : new long[] {-1, 20, 4294967305L}) {
            C.keeps(() -> told(coast, 3, 9, cell), "WINDS", y -> y.fits(0, 2, 0, 0), 0);
        }
        C.part("fits: 40 elements, the last as well");
        C.keeps(() -> told(coast, 0, forty(9, 9)), "all", y -> y.fits(0, 40, 0, 0), 4);
        C.keeps(() -> told(coast, 0, forty(9, 10)), "the last isn't so", y -> y.fits(0, 40, 0, 0), 0);
        C.keeps(() -> told(coast, 0, forty(9, 10)), "the last isn't asked", y -> y.fits(0, 39, 0, 0), 4);
        C.keeps(() -> told(coast, 0, forty(9, 9)), "KINDS that no wind moves", y -> y.fits(0, 40, 0, 1), 10);
        C.part("fits: WINDS and KINDS, at the ends");
        C.keeps(() -> told(coast, 0, 18, 19), "beyond the end", y -> y.fits(0, 2, 0, 0), 24);
        C.keeps(() -> told(coast, 0, 18, 19), "KINDS, a KITE of 2 too", y -> y.fits(0, 2, 0, 1), 53);
        C.keeps(() -> told(coast, 0, 1, 0), "beyond the first", y -> y.fits(0, 2, 0, 0), 3);
        C.keeps(() -> told(coast, 0, 5, 5, 5), "no wind", y -> y.fits(0, 3, 0, 0), 4);
        C.part("fits: a row of booleans, cells 0 and 1");
        C.keeps(() -> told(coast, 4, 0, 1), "up one", y -> y.fits(0, 2, 0, 0), 8);
        C.part("fits: nor is it BROKEN on the way");
        String hard = coast + ";current 9 6";
        C.keeps(() -> told(hard, 0, 9, 9), "BROKEN where it stays", y -> y.fits(0, 2, 0, 0), 0);
        C.keeps(() -> told(hard, 0, 9, 9), "KINDS", y -> y.fits(0, 2, 0, 1), 0);
        C.keeps(() -> told(hard, 0, 8, 9), "it may be BROKEN behind that", y -> y.fits(0, 2, 0, 0), 8);
        C.keeps(() -> told(hard, 0, 8, 9, 9), "it may not on the way", y -> y.fits(0, 3, 0, 0), 0);
        C.part("fits: all else as it is: the day of a DEEP one");
        C.keeps(() -> told(hard + ";day 1", 0, 9, 9, 12), "odd, even", y -> y.fits(0, 3, 0, 1), 8);
        C.keeps(() -> told(hard + ";day 0", 0, 9, 12, 12), "even, odd", y -> y.fits(0, 3, 0, 1), 10);
        C.keeps(() -> told(hard + ";day 999", 0, 9, 9, 9), "999 stays", y -> y.fits(0, 3, 0, 1), 8);
        C.part("fits: as if for nobody");
        C.keeps(() -> told(coast, 0, 3, 4, 5), "past the one it's for", y -> y.fits(0, 3, 0, 0), 8);
    }

    private static void froms() {
        C.part("from: n 0, its own cell alone; n 30");
        Check.Maker w = () -> C.coast("cells 30;walker 15 0 0;bottle 0 0 9 0;wind 3");
        for (int c : new int[] {0, 15, 29}) C.keeps(w, "behind none", y -> y.from(0, 0, c), 1 << c);
        C.keeps(w, "behind 30 days, the end", y -> y.from(0, 30, 29), (1 << 30) - 1);
        C.keeps(w, "behind 30 days, one ahead of it", y -> y.from(0, 30, 28), 0);
        C.keeps(w, "behind 29 days, the end", y -> y.from(0, 29, 29), (1 << 30) - 1);
        C.keeps(w, "behind 28 days, the end", y -> y.from(0, 28, 29), (1 << 30) - 2);
        C.keeps(w, "past the one it's for", y -> y.from(0, 10, 20), 1 << 10);
        C.keeps(w, "to where he stands", y -> y.from(0, 1, 15), 1 << 14);
        C.part("from: AFLOAT, not one BROKEN there or on the way");
        Check.Maker b = () -> C.coast("walker 0 0 0;bottle 0 0 9 0;wind 3;current 7 6");
        C.keeps(b, "BROKEN behind it", y -> y.from(0, 1, 7), 1 << 6);
        C.keeps(b, "not one that was there", y -> y.from(0, 2, 7), 1 << 5);
        C.keeps(b, "BROKEN on the way", y -> y.from(0, 2, 8), 0);
        C.part("from: however it is now");
        Check.Maker t = QuestionEdgesTest::three;
        for (int k = 0; k < 4; k++) { int i = k; C.keeps(t, "from", y -> y.from(i, 1, 15), 1 << 15 | 1 << 12); }
    }

    private static void paired(String coast, int t, int many, int days, int... whom) {
        Check.Maker w = () -> C.coast(coast);
        C.keeps(w, "how many in " + t, y -> y.pairs(t, -2), many);
        C.keeps(w, "DAYS in " + t, y -> y.pairs(t, -1), days);
        for (int b = 0; b < whom.length; b++) { int k = b; C.keeps(w, "whom " + b + " has in " + t, y -> y.pairs(t, k), whom[b]); }
    }

    private static void pairs() {
        C.part("pairs: as many as can be, though in more days");
        String more = "wind 3;walker 6 0 0;walker 12 0 0;bottle 0 0 5 0;bottle 1 0 6 0";
        paired(more, 60, 2, 8, 1, 0);
        C.part("pairs: just in t days");
        paired(more, 7, 2, 8, 1, 0);
        paired(more, 6, 1, 1, 0, -1);
        paired(more, 1, 1, 1, 0, -1);
        paired("wind 3;walker 6 0 0;bottle 0 0 4 0", 2, 1, 2, 0);
        paired("wind 3;walker 6 0 0;bottle 0 0 4 0", 1, 0, 0, -1);
        C.part("pairs: of these the fewest days together");
        paired("wind 3;walker 8 0 0;walker 6 0 0;bottle 0 0 5 0;bottle 2 0 4 0", 60, 2, 3, 1, 0);
        paired("wind 3;walker 6 0 0;bottle 0 0 3 0;bottle 0 0 4 0", 60, 1, 2, -1, 0);
        C.part("pairs: of several the first by rows, NONE behind all");
        paired("wind 3;walker 8 0 0;walker 6 0 0;bottle 0 0 5 0;bottle 0 0 4 0", 60, 2, 5, 0, 1);
        paired("wind 3;walker 6 0 0;walker 6 0 0;bottle 0 0 5 0;bottle 0 0 4 0", 60, 2, 3, 0, 1);
        paired("wind 3;walker 6 0 0;bottle 0 0 5 0;bottle 0 0 5 0", 60, 1, 1, 0, -1);
        paired("wind 3;walker 0 0 0;walker 6 0 0;bottle 0 0 5 0;bottle 0 0 5 0;bottle 0 0 5 0", 60, 1, 1, 1, -1, -1);
        paired("wind 3;walker 6 0 0;walker 6 0 0;bottle 0 0 5 0", 60, 1, 1, 0);
        C.part("pairs: none");
        paired("walker 6 0 0;bottle 0 0 5 0", 60, 0, 0, -1);
        paired("walker 6 0 0", 60, 0, 0);
    }

    private static void pairsMost() {
        C.part("pairs: eight bottles, six walkers");
        StringBuilder t = new StringBuilder("wind 3");
        for (int w = 0; w < 6; w++) t.append(";walker 6 0 0");
        for (int b = 0; b < 8; b++) t.append(";bottle 0 0 5 0");
        paired(t.toString(), 60, 6, 6, 0, 1, 2, 3, 4, 5, -1, -1);
        C.part("pairs: the most days together");
        Check.Maker far = () -> {
            AddressedToYou x = C.coast("cells 30;wind 4");
            for (int w = 0; w < 6; w++) x.walker(26, 1, 0);
            for (int b = 0; b < 8; b++) x.thrown(2, 0, 10, 0);
            x.days(1);
            return x;
        };
        C.keeps(far, "how many", y -> y.pairs(60, -2), 6);
        C.keeps(far, "DAYS", y -> y.pairs(60, -1), 360);
        C.keeps(far, "whom the 6th", y -> y.pairs(60, 5), 5);
        C.keeps(far, "whom the 8th", y -> y.pairs(60, 7), -1);
        C.part("pairs: whomever they are for, and not one FOUND or BROKEN");
        Check.Maker w = () -> dayLater("wind 3;walker 6 0 0;walker 9 0 0;bottle 0 0 5 0;bottle 0 0 5 0;bottle 2 0 12 0;current 12 6;current 5 3");
        C.keeps(w, "none AFLOAT", y -> y.pairs(60, -2), 0);
        w = () -> dayLater("wind 3;walker 6 0 0;walker 9 0 0;bottle 0 0 5 0;bottle 0 0 4 0;bottle 2 0 12 0;current 12 6");
        C.keeps(w, "how many", y -> y.pairs(60, -2), 1);
        C.keeps(w, "DAYS", y -> y.pairs(60, -1), 1);
        C.keeps(w, "FOUND", y -> y.pairs(60, 0), -1);
        C.keeps(w, "AFLOAT", y -> y.pairs(60, 1), 0);
        C.keeps(w, "BROKEN", y -> y.pairs(60, 2), -1);
    }

    private static void mend(String coast, int cellAndCurrent, int days) {
        C.keeps(() -> C.coast(coast), "mended of " + coast, y -> y.mended(0, 0), cellAndCurrent);
        C.keeps(() -> C.coast(coast), "DAYS of " + coast, y -> y.mended(0, 1), days);
    }

    private static void mended() {
        C.part("mended: another current than it has, of several the least");
        mend("walker 0 0 0;bottle 1 0 0 0", 0, 1);
        mend("walker 0 0 0;bottle 1 0 0 0;current 0 0", 1, 1);
        mend("walker 9 0 0;bottle 1 0 9 0", 0, 1);
        mend("walker 9 0 0;bottle 1 0 9 0;current 0 0", 1, 1);
        C.part("mended: the first and the last cell and current");
        mend("cells 30;walker 29 0 0;bottle 1 0 26 0", 266, 1);
        mend("cells 30;walker 26 0 0;bottle 1 0 29 0", 290, 1);
        mend("walker 3 0 0;bottle 1 0 0 0", 6, 1);
        mend("cells 30;walker 28 0 0;bottle 2 0 29 0;wind 1;current 29 1", 294, 1);
        C.part("mended: soonest by a current that it comes to later");
        mend("walker 9 0 0;bottle 0 0 5 0;wind 3", 55, 2);
        C.part("mended: by none");
        mend("walker 15 0 0;bottle 1 0 0 0", -1, -1);
        mend("walker 4 0 0;bottle 1 0 0 0", -1, -1);
        C.part("mended: a current by which it is not BROKEN");
        mend("walker 8 0 0;bottle 0 0 6 0;wind 3;current 6 6", 64, 1);
    }

    private static long hits(int at, int days, int goal) {
        if (at == goal) return Math.round(Math.pow(5, days));
        long sum = 0;
        for (int wind = 0; wind < 5 && days > 0; wind++) sum += hits(Math.max(0, Math.min(15, at + wind - 2)), days - 1, goal);
        return sum;
    }

    private static void odds() {
        C.part("odds: t 0 to 4");
        Check.Maker w = () -> C.coast("walker 6 0 0;walker 13 0 0;walker 5 0 0;bottle 0 0 5 0;bottle 0 0 5 1;bottle 1 0 5 2;bottle 2 0 5 1;current 5 4;day 5");
        Check.Maker still = () -> C.coast("walker 6 0 0;walker 13 0 0;bottle 0 0 5 0;bottle 0 0 5 1");
        long of = 1;
        for (int t = 0; t <= 4; t++, of *= 5) {
            int days = t;
            C.keeps(still, "FOUND in " + t, y -> y.odds(0, days, 0), hits(5, t, 6) * 1000000 / of);
            C.keeps(still, "never BROKEN", y -> y.odds(0, days, 1), 0);
            C.keeps(still, "8 cells in " + t, y -> y.odds(1, days, 0), t == 4 ? 1600 : 0);
            C.keeps(w, "HEAVY, sent off by the current", y -> y.odds(2, days, 0), 0);
            C.keeps(w, "LIGHT, BROKEN by wind 4 on the first day", y -> y.odds(3, days, 1), t == 0 ? 0 : 200000);
        }
        C.keeps(() -> C.coast("walker 5 0 0;bottle 1 0 5 0"), "for sure", y -> y.odds(0, 1, 0), 1000000);
        C.keeps(() -> C.coast("walker 5 0 0;bottle 1 0 5 0"), "not yet", y -> y.odds(0, 0, 0), 0);
        C.keeps(() -> C.coast("walker 5 0 0;bottle 1 0 5 0"), "for sure, still", y -> y.odds(0, 4, 0), 1000000);
        C.part("odds: the wind that is told now doesn't matter");
        for (int wind = 0; wind < 5; wind++) {
            int v = wind;
            C.keeps(() -> C.coast("walker 6 0 0;bottle 0 0 5 0;wind " + v), "in a day", y -> y.odds(0, 1, 0), 200000);
        }
        C.part("odds: he goes, too");
        Check.Maker goer = () -> C.coast("walker 4 1 0;bottle 1 0 6 0");
        C.keeps(goer, "not yet", y -> y.odds(0, 1, 0), 0);
        C.keeps(goer, "behind two days", y -> y.odds(0, 2, 0), 1000000);
        C.keeps(() -> C.coast("walker 15 3 0;bottle 1 0 12 0"), "from the last cell", y -> y.odds(0, 1, 0), 1000000);
        C.part("odds: the days pass, for a DEEP one too");
        Check.Maker deep = () -> C.coast("walker 6 0 0;bottle 3 0 5 0;current 5 4;day 1");
        C.keeps(deep, "odd", y -> y.odds(0, 1, 0), 0);
        C.keeps(deep, "odd, even", y -> y.odds(0, 2, 0), 1000000);
        Check.Maker last = () -> C.coast("walker 6 0 0;bottle 3 0 5 0;current 5 4;day 999");
        C.keeps(last, "999 stays", y -> y.odds(0, 4, 0), 0);
    }

    private static void winds() {
        C.part("windFor: of several the least; NONE; the least and the greatest wind");
        for (int wind = 0; wind < 5; wind++) {
            int cell = 5 - (wind - 2);
            C.keeps(() -> C.coast("walker 5 0 0;bottle 0 0 " + cell + " 0"), "a day", y -> y.windFor(0), wind);
        }
        C.keeps(() -> C.coast("walker 5 0 0;bottle 1 0 5 0"), "by all", y -> y.windFor(0), 0);
        C.keeps(() -> C.coast("walker 5 0 0;bottle 1 0 6 0"), "by none", y -> y.windFor(0), -1);
        C.keeps(() -> C.coast("walker 15 0 0;bottle 0 0 14 0"), "beyond the end", y -> y.windFor(0), 3);
        C.keeps(() -> C.coast("walker 0 0 0;bottle 0 0 1 0"), "beyond the first", y -> y.windFor(0), 0);
        C.keeps(() -> C.coast("walker 9 0 0;bottle 0 0 5 0"), "the soonest, not the least", y -> y.windFor(0), 4);
        C.keeps(() -> C.coast("walker 5 0 0;bottle 0 0 2 0"), "by no more than 4", y -> y.windFor(0), 3);
        C.keeps(() -> C.coast("walker 2 0 0;bottle 0 0 5 0"), "by no less than 0", y -> y.windFor(0), 1);
        C.keeps(() -> C.coast("walker 5 0 0;bottle 0 0 2 0"), "most by no more than 4", y -> y.bestWind(1, 1), 0);
        C.keeps(() -> C.coast("walker 2 0 0;bottle 0 0 5 0"), "most by no less than 0", y -> y.bestWind(1, 1), 0);
        C.part("bestWind: of several the least; in no days none");
        Check.Maker w = () -> C.coast("walker 5 0 0;walker 9 0 0;bottle 0 0 4 0;bottle 0 0 7 1;bottle 0 0 8 1");
        C.keeps(w, "none in none", y -> y.bestWind(0, 1), 0);
        C.keeps(w, "none in none: the least", y -> y.bestWind(0, 0), 0);
        C.keeps(w, "two in one", y -> y.bestWind(1, 1), 2);
        C.keeps(w, "two in one", y -> y.bestWind(1, 0), 3);
        C.keeps(w, "three in two", y -> y.bestWind(2, 1), 3);
        C.keeps(w, "in 60", y -> y.bestWind(60, 0), 3);
        C.keeps(() -> C.coast("walker 0 0 0;bottle 0 0 2 0"), "the least wind", y -> y.bestWind(1, 0), 0);
        C.keeps(() -> C.coast("walker 15 0 0;bottle 0 0 13 0"), "the greatest wind", y -> y.bestWind(1, 0), 4);
        C.keeps(() -> C.coast("walker 5 0 0;bottle 1 0 5 0"), "by all: the least", y -> y.bestWind(1, 0), 0);
    }

    private static void settles() {
        C.part("settles: now counts; NONE, if it is BROKEN ahead of that; as if for nobody");
        C.keeps(() -> C.coast("walker 0 0 0;bottle 1 0 5 0"), "it stays", y -> y.settles(0), 1);
        C.keeps(() -> C.coast("walker 0 0 0;bottle 1 0 5 0;current 5 4;current 6 2"), "back where it is now", y -> y.settles(0), 2);
        C.keeps(() -> C.coast("walker 0 0 0;bottle 1 0 4 0;current 4 5;current 6 2;current 5 2"), "by three", y -> y.settles(0), 3);
        C.keeps(() -> C.coast("walker 0 0 0;bottle 1 0 4 0;current 4 6;current 7 2;current 6 4"), "not where it is now, but was", y -> y.settles(0), 3);
        C.keeps(() -> C.coast("walker 0 0 0;bottle 0 0 12 0;wind 3"), "at the end", y -> y.settles(0), 4);
        C.keeps(() -> C.coast("walker 13 0 0;bottle 0 0 12 0;wind 3"), "past the one it's for", y -> y.settles(0), 4);
        C.keeps(() -> C.coast("walker 0 0 0;bottle 0 0 12 0;wind 3;current 15 6"), "BROKEN at the end", y -> y.settles(0), -1);
        C.keeps(() -> C.coast("walker 0 0 0;bottle 0 0 12 0;wind 3;current 12 6"), "BROKEN at once", y -> y.settles(0), -1);
        C.keeps(() -> dayLater("walker 0 0 0;bottle 0 0 12 0;wind 3;current 12 6"), "BROKEN now", y -> y.settles(0), -1);
        C.keeps(() -> C.coast("walker 0 0 0;bottle 3 0 12 0;day 1;current 12 4"), "a DEEP one, odd", y -> y.settles(0), 1);
        C.keeps(() -> C.coast("walker 0 0 0;bottle 3 0 12 0;day 0;current 12 4"), "a DEEP one, even", y -> y.settles(0), 2);
    }

    private static void reach() {
        C.part("reach: now, too; the ends of the coast; as if for nobody");
        Check.Maker w = () -> C.coast("walker 7 0 0;bottle 0 0 5 0;bottle 0 0 5 0;wind 3");
        C.keeps(w, "the least is now", y -> y.reach(0, 0), 5);
        C.keeps(w, "the greatest is the last", y -> y.reach(0, 1), 15);
        Check.Maker d = () -> C.coast("walker 3 0 0;bottle 0 0 5 0;wind 1");
        C.keeps(d, "the greatest is now", y -> y.reach(0, 1), 5);
        C.keeps(d, "the least is the first", y -> y.reach(0, 0), 0);
        Check.Maker f = () -> C.coast("walker 0 0 0;bottle 1 0 5 0;current 5 6;current 8 0;current 9 6");
        C.keeps(f, "to and fro, the greatest", y -> y.reach(0, 1), 8);
        C.keeps(f, "to and fro, the least", y -> y.reach(0, 0), 5);
        C.keeps(() -> C.coast("walker 0 0 0;bottle 0 0 5 0;wind 3;current 7 6"), "till it is BROKEN", y -> y.reach(0, 1), 7);
    }

    private static void busiest() {
        C.part("busiest: each once, now, too; of several the first");
        Check.Maker w = () -> C.coast("walker 0 0 0;bottle 1 0 5 0;current 5 4;current 6 2;bottle 1 0 9 0");
        C.keeps(w, "each once", y -> y.busiest(1), 1);
        C.keeps(w, "the first", y -> y.busiest(0), 5);
        Check.Maker two = () -> C.coast("walker 0 0 0;bottle 1 0 5 0;current 5 6;bottle 1 0 8 0;bottle 1 0 3 0");
        C.keeps(two, "behind a day, where another stays", y -> y.busiest(0), 8);
        C.keeps(two, "how many", y -> y.busiest(1), 2);
        C.keeps(() -> C.coast("walker 0 0 0;bottle 1 0 15 0;bottle 1 0 0 0"), "the first cell", y -> y.busiest(0), 0);
        C.keeps(() -> C.coast("walker 0 0 0;bottle 1 0 15 0;bottle 1 0 15 0;bottle 1 0 0 0"), "the last cell", y -> y.busiest(0), 15);
        C.keeps(() -> C.coast("walker 6 0 0;bottle 0 0 5 0;bottle 1 0 7 0;wind 3"), "past the one it's for", y -> y.busiest(0), 7);
        C.part("busiest: one FOUND, one BROKEN is where it is");
        C.keeps(QuestionEdgesTest::three, "the first of all alone", y -> y.busiest(0), 3);
        Check.Maker still = () -> dayLater("walker 9 0 0;bottle 1 0 9 0;bottle 0 0 12 0;current 12 6;wind 4;bottle 1 0 3 0;bottle 1 0 12 0");
        C.keeps(still, "BROKEN there, and another behind it", y -> y.busiest(1), 1);
        C.keeps(still, "FOUND, BROKEN and AFLOAT: the first", y -> y.busiest(0), 3);
        Check.Maker with = () -> dayLater("walker 9 0 0;bottle 0 0 12 0;current 12 6;wind 4;bottle 1 0 11 0;current 11 4");
        C.keeps(with, "one BROKEN, one AFLOAT", y -> y.busiest(1), 2);
        C.keeps(with, "where", y -> y.busiest(0), 12);
    }

    private static void rounds() {
        C.part("round: 1 where he stands; his way the same; NONE");
        int[][] at = {{5, 0, 0, 1}, {15, 0, 0, 1}, {0, 0, 1, 1}, {5, 1, 0, 30}, {5, 1, 1, 30}, {15, 1, 0, 30}, {0, 1, 1, 30}, {15, 1, 1, -1}, {0, 1, 0, -1},
            {5, 2, 0, 15}, {0, 2, 1, 15}, {0, 2, 0, -1}, {15, 2, 1, -1}, {5, 3, 0, 10}, {15, 3, 0, 10}, {15, 3, 1, -1}, {0, 3, 0, -1}};
        for (int[] w : at) {
            C.keeps(() -> C.coast("walker " + w[0] + " " + w[1] + " " + w[2]), "round of " + java.util.Arrays.toString(w), y -> y.round(0), w[3]);
        }
        int[][] more = {{17, 1, 32}, {17, 2, 16}, {17, 3, 32}, {30, 1, 58}, {30, 2, 29}, {30, 3, 58}};
        for (int[] w : more) {
            C.keeps(() -> C.coast("cells " + w[0] + ";walker 7 " + w[1] + " 0"), "round on " + w[0] + " cells", y -> y.round(0), w[2]);
        }
    }

    private static void join() {
        C.part("join: now counts, both AFLOAT, as if for nobody; not in passing");
        Check.Maker w = () -> C.coast("walker 7 0 0;bottle 0 0 5 0;bottle 1 0 5 0;bottle 1 0 9 0;bottle 2 0 1 0;wind 3");
        C.keeps(w, "now", y -> y.join(0, 1), 0);
        C.keeps(w, "past the one they're for", y -> y.join(0, 2), 4);
        C.keeps(w, "the other way round", y -> y.join(2, 0), 4);
        C.keeps(w, "two a day", y -> y.join(3, 0), 4);
        C.keeps(() -> C.coast("walker 0 0 0;bottle 1 0 5 0;bottle 1 0 6 0;current 5 4;current 6 2"), "in passing", y -> y.join(0, 1), -1);
        C.keeps(() -> C.coast("walker 0 0 0;bottle 1 0 5 0;bottle 1 0 7 0;current 5 4;current 7 2"), "in one cell", y -> y.join(0, 1), 1);
        C.keeps(() -> C.coast("walker 0 0 0;bottle 1 0 5 0;bottle 1 0 6 0"), "never", y -> y.join(0, 1), -1);
        C.keeps(() -> C.coast("walker 0 0 0;bottle 0 0 5 0;bottle 1 0 7 0;wind 3;current 6 6"), "BROKEN ahead of it", y -> y.join(0, 1), -1);
        C.part("join: one FOUND, one BROKEN in the cell now");
        C.keeps(() -> dayLater("walker 5 0 0;walker 0 0 0;bottle 1 0 5 0;bottle 1 0 5 1"), "FOUND", y -> y.join(0, 1), -1);
        C.keeps(() -> dayLater("walker 0 0 0;bottle 0 0 5 0;bottle 5 0 0 0;wind 4;current 5 6;current 0 6"), "BROKEN", y -> y.join(0, 1), -1);
    }

    private static void breaks() {
        C.part("breaks: behind how many days; 0 now; not one that is FOUND first");
        C.keeps(() -> C.coast("walker 0 0 0;bottle 0 0 5 0;wind 3;current 5 6"), "the first day", y -> y.breaks(0), 1);
        C.keeps(() -> C.coast("walker 0 0 0;bottle 0 0 4 0;wind 3;current 5 6"), "the second day", y -> y.breaks(0), 2);
        C.keeps(() -> C.coast("walker 5 0 0;bottle 0 0 4 0;wind 3;current 5 6"), "FOUND there first", y -> y.breaks(0), -1);
        C.keeps(() -> C.coast("walker 5 0 0;bottle 0 0 5 0;wind 3;current 5 6"), "where he stands", y -> y.breaks(0), 1);
        C.keeps(() -> dayLater("walker 0 0 0;bottle 0 0 5 0;wind 3;current 5 6"), "now", y -> y.breaks(0), 0);
        C.keeps(() -> C.coast("walker 0 0 0;bottle 5 0 5 0;wind 4;current 5 6"), "a BILL never", y -> y.breaks(0), -1);
        C.keeps(() -> C.coast("walker 0 0 0;bottle 0 0 5 0"), "never", y -> y.breaks(0), -1);
    }

    private static void first() {
        C.part("first: of several the first by numbers; NONE");
        C.keeps(() -> C.coast("walker 5 0 0;bottle 0 0 4 0;bottle 0 0 4 0;wind 3"), "by numbers", y -> y.first(0), 0);
        C.keeps(() -> C.coast("walker 5 0 0;bottle 0 0 3 0;bottle 0 0 4 0;wind 3"), "the sooner", y -> y.first(0), 1);
        C.keeps(() -> C.coast("walker 5 0 0;walker 5 0 0;bottle 0 0 4 1;bottle 0 0 3 0;wind 3"), "not for another", y -> y.first(0), 1);
        C.keeps(() -> C.coast("walker 5 0 0;bottle 0 0 6 0;wind 3"), "never", y -> y.first(0), -1);
        C.keeps(() -> C.coast("walker 5 0 0"), "none for him", y -> y.first(0), -1);
        C.keeps(() -> dayLater("walker 5 0 0;bottle 0 0 4 0;bottle 0 0 2 0;wind 3"), "not one FOUND ahead", y -> y.first(0), 1);
        C.keeps(() -> C.coast("walker 5 0 0;bottle 0 0 5 0"), "where he stands", y -> y.first(0), 0);
    }

    private static void judge() {
        C.part("judge: none told; 40 days, the last as well");
        String coast = "walker 0 0 0;bottle 1 0 9 0";
        C.keeps(() -> told(coast, 0, forty(9, 9)), "none told", y -> y.judge(0, 0, 0), -1);
        C.keeps(() -> told(coast, 0, forty(9, 9)), "40", y -> y.judge(0, 40, 0), -1);
        C.keeps(() -> told(coast, 0, forty(9, 8)), "40, the last isn't so", y -> y.judge(0, 40, 0), 39);
        C.keeps(() -> told(coast, 0, forty(9, 8)), "39", y -> y.judge(0, 39, 0), -1);
        C.part("judge: from behind a day on, the first that isn't so");
        String up = "walker 0 0 0;bottle 0 0 9 0;wind 3";
        C.keeps(() -> told(up, 0, 10, 11, 12), "so", y -> y.judge(0, 3, 0), -1);
        C.keeps(() -> told(up, 0, 9, 10, 11), "now is not told", y -> y.judge(0, 3, 0), 0);
        C.keeps(() -> told(up, 0, 10, 12, 11), "the second", y -> y.judge(0, 3, 0), 1);
        C.keeps(() -> told(up, 0, 10, 11, 12, 13, 14, 15, 15, 15), "at the end", y -> y.judge(0, 8, 0), -1);
        C.part("judge: numbers that are no cells");
        for (long v : new long[] {-1, 16, 4294967306L, Long.MIN_VALUE}) C.keeps(() -> told(up, 3, v), "no cell", y -> y.judge(0, 1, 0), 0);
        C.keeps(() -> told("walker 9 0 0;bottle 0 0 0 0;wind 3", 4, 1, 1), "a row of booleans", y -> y.judge(0, 2, 0), 1);
        C.part("judge: as told of AHEAD, where it is FOUND, BROKEN");
        C.keeps(() -> told("walker 10 0 0;bottle 0 0 9 0;wind 3", 0, 10, 10, 10), "FOUND", y -> y.judge(0, 3, 0), -1);
        C.keeps(() -> told("walker 0 0 0;bottle 0 0 9 0;wind 3;current 10 6", 0, 10, 10, 10), "BROKEN", y -> y.judge(0, 3, 0), -1);
        C.keeps(() -> Check.put(three(), 0, 0, forty(12, 12)), "BROKEN now", y -> y.judge(0, 40, 3), -1);
        C.keeps(() -> Check.put(three(), 0, 0, forty(7, 7)), "FOUND now", y -> y.judge(0, 40, 1), -1);
    }

    private static void lists() {
        C.part("there, ofKind, who: none and all");
        C.keeps(Check::full, "there, nobody", y -> y.there(0, 1), 0);
        C.keeps(Check::untouched, "there, no bottles", y -> y.there(0, 0), 0);
        C.keeps(Check::untouched, "of no kind", y -> y.ofKind(0), 0);
        C.part("stays: the ends, BROKEN or not; as the day is");
        Check.Maker w = () -> C.coast("wind 4;current 7 6;current 3 1");
        C.keeps(w, "a BOTTLE", y -> y.stays(0, 0), 1 << 3 | 1 << 7 | 1 << 15);
        C.keeps(w, "a BILL", y -> y.stays(5, 0), 1 << 3 | 1 << 15);
        C.keeps(w, "a HEAVY one", y -> y.stays(1, 0), 65535 & ~(1 << 7 | 1 << 3));
        C.keeps(() -> C.coast("day 1;current 7 6"), "a DEEP one, odd", y -> y.stays(3, 0), 65535);
        C.keeps(() -> C.coast("day 2;current 7 6"), "a DEEP one, even", y -> y.stays(3, 0), 65535 & ~(1 << 7));
        C.keeps(() -> C.coast("cells 30"), "30 cells", y -> y.stays(0, 0), (1 << 30) - 1);
        C.keeps(() -> C.coast("wind 0"), "the first cell", y -> y.stays(0, 0), 1);
        C.part("next: for nobody, though one stands there");
        C.keeps(() -> C.coast("walker 5 0 0"), "next", y -> y.next(1, 0, 5), 5);
    }

    /** A DEEP one that the current takes from 9 to 12, where he stands. */
    private static AddressedToYou deepOn(int day) {
        return C.coast("walker 12 0 0;bottle 3 0 9 0;current 9 6;day " + day);
    }

    private static void lastDays() {
        C.part("the last days: 998 is even, and all behind it are 999");
        int[] days = {996, 997, 998, 999};
        int[] when = {1, 2, 1, -1};
        for (int i = 0; i < 4; i++) {
            int day = days[i], due = when[i], to = due < 0 ? 9 : 12;
            Check.Maker w = () -> deepOn(day);
            C.keeps(w, "when, on day " + day, y -> y.when(0), due);
            C.keeps(w, "meets", y -> y.meets(0, 0), due);
            C.keeps(w, "finder", y -> y.finder(0), due < 0 ? -1 : 0);
            C.keeps(w, "aim, who waits", y -> y.aim(3, 0, 0, 0), due == 1 ? 9 : 12);
            C.keeps(w, "found", y -> y.found(60), due < 0 ? 0 : 1);
            C.keeps(w, "found in a day", y -> y.found(1), due == 1 ? 1 : 0);
            C.keeps(w, "ahead", y -> y.ahead(0, 60, 0), to);
            C.keeps(w, "ahead a day", y -> y.ahead(0, 1, 0), due == 1 ? 12 : 9);
            C.keeps(w, "walk", y -> y.walk(0, 30, 1), 1);
            C.keeps(w, "from, behind a day", y -> y.from(0, 1, 12), due == 1 ? 1 << 9 | 1 << 12 : 1 << 12);
            C.keeps(w, "from, behind 30", y -> y.from(0, 30, 12), due < 0 ? 1 << 12 : 1 << 9 | 1 << 12);
            C.keeps(w, "pairs", y -> y.pairs(60, -1), Math.max(due, 0));
            C.keeps(w, "odds in a day", y -> y.odds(0, 1, 0), due == 1 ? 1000000 : 0);
            C.keeps(w, "odds in 4", y -> y.odds(0, 4, 0), due < 0 ? 0 : 1000000);
            C.keeps(w, "windFor", y -> y.windFor(0), due < 0 ? -1 : 0);
            C.keeps(w, "bestWind", y -> y.bestWind(60, 1), due < 0 ? 0 : 1);
            C.keeps(w, "mended", y -> y.mended(0, 1), due);
            C.keeps(w, "settles", y -> y.settles(0), due == 1 ? 2 : 1);
            C.keeps(w, "reach", y -> y.reach(0, 1), to);
            C.keeps(w, "busiest", y -> y.busiest(0), 9);
            C.keeps(w, "strays", y -> y.strays(), due < 0 ? 1 : 0);
            C.keeps(w, "first", y -> y.first(0), due < 0 ? -1 : 0);
            Check.Maker t = () -> Check.put(deepOn(day), 0, 0, 9, due == 1 ? 12 : 9, to, to);
            C.keeps(t, "fits", y -> y.fits(0, 4, 0, 1) >> 3 & 1, 1);
            C.keeps(() -> Check.put(deepOn(day), 0, 0, due == 1 ? 12 : 9, to, to), "judge", y -> y.judge(0, 3, 0), -1);
            AddressedToYou x = deepOn(day);
            x.days(3);
            C.due("in truth", x.bottleOf(0, 2), to);
        }
    }

    /** What was told of behind the last coast: more cells, other currents, another wind and day. */
    private static AddressedToYou changed() {
        AddressedToYou x = C.coast("walker 5 0 0;bottle 0 0 3 0;bottle 1 0 4 0;bottle 3 0 15 0;current 4 0;wind 4");
        x.paves(20);
        x.current(3, 4);
        x.current(4, 4);
        x.tell(0, 2);
        x.tell(1, 3);
        return x;
    }

    private static void asThingsStand() {
        C.part("all else as it is: what was told of since the last coast");
        Check.Maker w = QuestionEdgesTest::changed;
        C.keeps(w, "windFor", y -> y.windFor(0), 3);
        C.keeps(w, "bestWind", y -> y.bestWind(1, 0), 3);
        C.keeps(w, "bestWind, how many", y -> y.bestWind(1, 1), 2);
        C.keeps(w, "odds", y -> y.odds(1, 1, 0), 1000000);
        C.keeps(w, "odds of a BOTTLE", y -> y.odds(0, 1, 0), 200000);
        C.keeps(w, "mended", y -> y.mended(1, 0), 0);
        C.keeps(w, "mended, DAYS", y -> y.mended(1, 1), 1);
        C.keeps(() -> Check.put(changed(), 0, 0, 4, 5), "fits, WINDS", y -> y.fits(0, 2, 1, 0), 31);
        C.keeps(() -> Check.put(changed(), 0, 0, 4, 5), "fits, KINDS, on an odd day", y -> y.fits(0, 2, 1, 1), 39);
        C.keeps(() -> Check.put(changed(), 0, 0, 19, 19), "fits, a new cell", y -> y.fits(0, 2, 1, 1), 47);
        C.part("all else as it is: behind back, too");
        Check.Maker b = () -> {
            AddressedToYou x = changed();
            x.image();
            x.current(3, 0);
            x.current(4, 0);
            x.tell(1, 0);
            x.windFor(0);
            x.back();
            return x;
        };
        C.keeps(b, "windFor", y -> y.windFor(0), 3);
        C.keeps(b, "odds", y -> y.odds(1, 1, 0), 1000000);
        C.keeps(b, "mended", y -> y.mended(1, 0), 0);
        C.part("all else as it is: one question is not changed by another");
        AddressedToYou x = changed();
        long[] ahead = asked(x);
        long[] behind = asked(x);
        for (int i = 0; i < ahead.length; i++) C.due("question " + i, behind[i], ahead[i]);
    }

    private static long[] asked(AddressedToYou x) {
        return new long[] {x.mended(0, 0), x.windFor(0), x.bestWind(60, 0), x.odds(0, 4, 0), x.pairs(60, -1), x.aim(4, 5, 0, 0), x.walk(0, 30, 0),
            x.from(0, 30, 9), x.finder(1), x.two(0, 0), x.reach(0, 1), x.busiest(0), x.join(0, 1), x.next(4, 9, 4), x.stays(3, 1), x.strays(),
            x.when(1), x.ahead(0, 60, 0), x.walks(0, 60), x.found(60), x.settles(0), x.round(0), x.breaks(0), x.first(0), x.who(3)};
    }
}
