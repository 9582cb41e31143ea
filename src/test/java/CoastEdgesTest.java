/** The document's edges of THE COAST: its cells, bottles, walkers and kinds, THE TAPE, and a COAST read from it. */
public final class CoastEdgesTest {
    private static final Check C = new Check();
    private static final int BAD = Check.BAD, OTHER = Check.OTHER, NOTHING = Check.NOTHING, FULL = Check.FULL;

    public static void main(String[] args) {
        cells();
        bottlesAtMost();
        walkersAtMost();
        kindsUnder();
        saysToday();
        tapeSize();
        everyByte();
        tokens();
        words();
        numbers();
        statements();
        endsTooEarly();
        noRoom();
        allOrNothing();
        C.end("the coast's edges");
    }

    /** A tape that is read in a world: its statements or its fault, and what may not change then. */
    private static void reads(Check.Maker world, String text, int want) {
        String what = "coast of \"" + (text.length() > 60 ? text.substring(0, 60) + ".." : text) + "\"";
        AddressedToYou x = Check.fed(world.make(), text);
        int bads = x.status(12);
        C.due(what, x.coast(), want);
        C.due(what + ": THE TAPE's size behind it", x.status(7), 0);
        C.due(what + ": BAD", x.status(12) - bads, want <= -2000 ? 1 : 0);
        if (want <= -2000) C.sameBehind(world, what, y -> Check.fed(y, text).coast(), BAD);
    }

    private static void reads(String text, int want) {
        reads(Check::untouched, text, want);
    }

    private static AddressedToYou twenty() {
        return C.coast("cells 20;walker 3 1 0");
    }

    private static void cells() {
        C.part("cells: 16 at first, 30 at most, each of no current");
        AddressedToYou x = new AddressedToYou();
        C.due("status", x.status(2), 16);
        C.due("the last", x.currentAt(15), 3);
        C.due("paves as many", x.paves(16), 16);
        C.due("one more", x.paves(17), 16);
        C.refused(CoastEdgesTest::twenty, BAD, "one fewer", y -> y.paves(19));
        C.due("to 30", x.paves(30), 17);
        for (int c = 0; c < 30; c++) C.due("currentAt " + c, x.currentAt(c), 3);
        C.due("30 again", x.paves(30), 30);
        C.due("a walker at the last", x.walker(29, 0, 0), 0);
        C.due("a bottle in the last", x.thrown(0, 0, 29, 0), 0);
        C.due("a current in the last", x.current(29, 0), 3);
        C.due("from the last", x.from(0, 0, 29), 1 << 29);
        C.due("stays in all but the last", x.stays(0, 0), (1 << 29) - 1);
        for (int n : new int[] {4, 5, 15}) C.refused(Check::untouched, BAD, "fewer than 16", y -> y.paves(n));
        C.refused(Check::full, BAD, "31 of 30", y -> y.paves(31));
        C.part("cells that back takes away have no current when they come again");
        x = new AddressedToYou();
        x.image();
        x.paves(18);
        x.current(17, 6);
        x.back();
        C.due("16 again", x.paves(18), 16);
        C.due("no current", x.currentAt(17), 3);
    }

    private static AddressedToYou eight() {
        AddressedToYou x = C.coast("walker 5 0 0");
        for (int b = 0; b < 8; b++) x.thrown(0, 0, 5, 0);
        return x;
    }

    private static void bottlesAtMost() {
        C.part("bottles: 8 at most");
        AddressedToYou x = C.coast("walker 5 0 0");
        for (int b = 0; b < 8; b++) C.due("the number", x.thrown(0, 0, 5, 0), b);
        C.refused(CoastEdgesTest::eight, FULL, "a 9th", y -> y.thrown(0, 0, 5, 0));
        C.refused(CoastEdgesTest::eight, BAD, "a 9th, of no kind", y -> y.thrown(6, 0, 5, 0));
        C.refused(CoastEdgesTest::eight, BAD, "a 9th, for nobody", y -> y.thrown(0, 0, 5, -1));
        reads(CoastEdgesTest::eight, "bottle 0 0 5 0", -2000);
        reads(CoastEdgesTest::eight, "wind 2; bottle", -2008);
        C.keeps(CoastEdgesTest::eight, "bits of all", y -> y.walkerOf(0, 3), 255);
        C.keeps(CoastEdgesTest::eight, "AFLOAT", y -> y.who(0), 255);
        C.keeps(CoastEdgesTest::eight, "will be FOUND", y -> y.who(3), 255);
        C.keeps(CoastEdgesTest::eight, "there", y -> y.there(5, 0), 255);
        C.keeps(CoastEdgesTest::eight, "of the kind", y -> y.ofKind(0), 8);
        C.keeps(CoastEdgesTest::eight, "found", y -> y.found(1), 8);
        C.keeps(CoastEdgesTest::eight, "walk", y -> y.walk(0, 1, 1), 8);
        C.keeps(CoastEdgesTest::eight, "busiest", y -> y.busiest(1), 8);
        C.keeps(CoastEdgesTest::eight, "bestWind", y -> y.bestWind(1, 1), 8);
        C.keeps(CoastEdgesTest::eight, "a 9th thought of, aim", y -> y.aim(5, 0, 0, 1), 1);
        C.keeps(CoastEdgesTest::eight, "a 9th thought of, next", y -> y.next(5, 0, 7), 7);
        C.keeps(CoastEdgesTest::eight, "a 9th thought of, stays", y -> y.stays(5, 0), 65535);
        x = eight();
        C.due("ANSWERED", x.days(1), 8);
        C.due("FOUND", x.who(1), 255);
        C.due("none AFLOAT", x.status(6), 0);
        C.due("strays", x.strays(), 0);
        C.part("no bottles: nothing of any number");
        C.keeps(Check::untouched, "who", y -> y.who(0) + y.who(1) + y.who(2) + y.who(3), 0);
        C.keeps(Check::untouched, "strays", y -> y.strays(), 0);
        C.keeps(Check::untouched, "found", y -> y.found(60), 0);
        C.keeps(Check::untouched, "busiest CELL", y -> y.busiest(0), 0);
        C.keeps(Check::untouched, "busiest", y -> y.busiest(1), 0);
        C.keeps(Check::untouched, "bestWind", y -> y.bestWind(60, 0), 0);
        C.keeps(Check::untouched, "bestWind, how many", y -> y.bestWind(60, 1), 0);
        C.keeps(Check::untouched, "pairs", y -> y.pairs(60, -2), 0);
        C.keeps(Check::untouched, "pairs, DAYS", y -> y.pairs(60, -1), 0);
        C.refused(Check::untouched, BAD, "pairs of the first", y -> y.pairs(60, 0));
        C.due("days pass", new AddressedToYou().days(60), 0);
    }

    private static AddressedToYou six() {
        AddressedToYou x = new AddressedToYou();
        for (int w = 0; w < 6; w++) x.walker(15, 3, 1);
        return x;
    }

    private static void walkersAtMost() {
        C.part("walkers: 6 at most");
        AddressedToYou x = new AddressedToYou();
        for (int w = 0; w < 6; w++) C.due("the number", x.walker(15, 3, 1), w);
        C.refused(CoastEdgesTest::six, FULL, "a 7th", y -> y.walker(0, 0, 0));
        C.refused(CoastEdgesTest::six, BAD, "a 7th, in no cell", y -> y.walker(16, 0, 0));
        C.refused(CoastEdgesTest::six, BAD, "a 7th, of no pace", y -> y.walker(0, 4, 0));
        C.refused(CoastEdgesTest::six, BAD, "a 7th, of no way", y -> y.walker(0, 0, 2));
        reads(CoastEdgesTest::six, "walker 0 0 0", -2000);
        reads(CoastEdgesTest::six, "day 1;walker", -2006);
        C.keeps(CoastEdgesTest::six, "there", y -> y.there(15, 1), 63);
        C.keeps(CoastEdgesTest::six, "nobody there", y -> y.there(14, 1), 0);
        x.thrown(0, 0, 12, 5);
        C.due("meets the 6th", x.meets(0, 5), 1);
        C.due("pairs, of several the first", x.pairs(1, 0), 0);
        C.due("FOUND by the one it's for", x.days(1), 1);
    }

    private static void kindsUnder() {
        C.part("kinds: each of its own and of those over it");
        String[] over = {"0", "01", "02", "013", "024", "05"};
        for (int kind = 0; kind < 6; kind++) {
            int mine = kind;
            Check.Maker world = () -> {
                AddressedToYou x = C.coast("walker 0 0 0");
                x.thrown(mine, 9, 15, 0);
                x.show(7, 0);
                return x;
            };
            for (int told = 0; told < 6; told++) {
                int as = told;
                boolean is = over[kind].indexOf('0' + told) >= 0;
                if (!is) C.refused(world, OTHER, "says of " + kind + " as " + told, y -> y.says(7, as));
                else C.keeps(world, "says of " + kind + " as " + told, y -> y.says(7, as), told == 0 ? 15 : kind == 4 ? -1 : 0);
                C.keeps(world, "just of the kind", y -> y.ofKind(as), mine == as ? 1 : 0);
            }
            C.refused(world, BAD, "says of no kind", y -> y.says(7, 6));
            C.refused(world, BAD, "says of no kind, nothing there", y -> y.says(0, -1));
            C.refused(world, NOTHING, "says of nothing", y -> y.says(0, mine));
        }
        C.part("TOUGH of each kind and a");
        for (int a = 0; a <= 9; a++) {
            AddressedToYou x = C.coast("walker 0 0 0");
            int[] tough = {3, 5, 4, 5, new int[] {4, 4, 4, 5, 5, 5, 6, 6, 6, 7}[a], 99};
            for (int kind = 0; kind < 6; kind++) {
                x.thrown(kind, a, 0, 0);
                C.due("TOUGH of " + kind + ", " + a, x.bottleOf(kind, 5), tough[kind]);
            }
        }
    }

    private static void saysToday() {
        C.part("says: how many cells it would go today, BROKEN or not, ends or not");
        AddressedToYou x = C.coast("walker 0 0 0;current 15 6;current 0 0;bottle 0 0 15 0;bottle 2 0 15 0;bottle 5 0 0 0");
        for (int b = 0; b < 3; b++) x.show(b, b);
        x.tell(0, 4);
        C.due("a BOTTLE is its CELL, not what it goes", x.says(0, 0), 15);
        C.due("LIGHT, more than it is TOUGH, beyond the end", x.says(1, 2), 7);
        x.tell(0, 0);
        C.due("a BILL, below 0", x.says(2, 5), -5);
        x.tell(0, 4);
        x.days(1);
        C.due("it is BROKEN", x.bottleOf(1, 4), 2);
        C.due("LIGHT, BROKEN", x.says(1, 2), 7);
        C.due("BOTTLE, its CELL, BROKEN", x.says(1, 0), 15);
        C.part("says: one FOUND, too");
        AddressedToYou y = C.coast("walker 4 0 0;bottle 1 0 4 0");
        y.days(1);
        C.due("it is FOUND", y.bottleOf(0, 4), 1);
        y.current(4, 6);
        y.show(7, 0);
        C.due("HEAVY, FOUND", y.says(7, 1), 3);
        C.part("says: a DEEP one on an even and an odd day, and the last");
        y = C.coast("walker 4 0 0;bottle 3 0 4 0;current 4 0");
        y.show(0, 0);
        int[] days = {0, 1, 998, 999};
        int[] goes = {-3, 0, -3, 0};
        for (int i = 0; i < days.length; i++) {
            y.tell(1, days[i]);
            C.due("DEEP on day " + days[i], y.says(0, 3), goes[i]);
            C.due("taken for HEAVY, by its own kind", y.says(0, 1), goes[i]);
        }
        C.part("says: a KITE, a modulo 3, less 1");
        for (int a = 0; a <= 9; a++) {
            y = C.coast("walker 4 0 0");
            y.thrown(4, a, 4, 0);
            y.show(0, 0);
            int own = new int[] {-1, 0, 1, -1, 0, 1, -1, 0, 1, -1}[a];
            C.due("KITE of " + a, y.says(0, 4), own);
            C.due("taken for LIGHT, by its own kind", y.says(0, 2), own);
        }
    }

    private static AddressedToYou taped(int bytes) {
        AddressedToYou x = new AddressedToYou();
        for (int i = 0; i < bytes; i++) x.feed(32);
        return x;
    }

    private static void tapeSize() {
        C.part("THE TAPE: 250 bytes at most");
        AddressedToYou x = taped(249);
        C.due("the 250th", x.feed('x'), 250);
        C.due("its size", x.status(7), 250);
        C.refused(() -> taped(250), FULL, "a 251st", y -> y.feed(0));
        C.refused(() -> taped(250), FULL, "a 251st", y -> y.feed(255));
        C.refused(() -> taped(250), BAD, "no byte, no room", y -> y.feed(256));
        C.refused(() -> taped(250), BAD, "no byte, no room", y -> y.feed(-1));
        C.refused(Check::untouched, BAD, "no byte", y -> y.feed(256));
        C.due("the last byte counts", x.coast(), -2249);
        C.due("room again behind coast", x.feed(0), 1);
        C.due("wipe", x.wipe(), 1);
        C.due("wipe of none", x.wipe(), 0);
        x = taped(250);
        C.due("wipe of 250", x.wipe(), 250);
        C.due("room again behind wipe", x.feed(255), 1);
        C.due("what was wiped is gone", x.coast(), -2000);
        C.part("THE TAPE: a coast of 250 bytes");
        x = Check.fed(taped(245), "day 9");
        C.due("size", x.status(7), 250);
        C.due("no room for another digit", x.feed('9'), FULL);
        C.due("coast", x.coast(), 1);
        C.due("DAY", x.status(4), 9);
        x = taped(250);
        C.due("blanks alone", x.coast(), -2250);
        StringBuilder many = new StringBuilder();
        for (int i = 0; i < 50; i++) many.append("day0;");
        reads(many.toString(), -2250);
        reads(many.substring(0, 249), 50);
        reads(many.substring(0, 248), -2248);
        reads(many.substring(0, 249) + "0", 50);
        reads(many.substring(0, 249) + "d", -2249);
        reads("wind " + many.toString().replaceAll(".", "0").substring(5), -2005);
    }

    /** Behind a statement, each byte alone: what it begins, or that it begins nothing. */
    private static void everyByte() {
        C.part("each byte");
        for (int b = 0; b <= 255; b++) {
            boolean blank = b == 32, digit = b >= 48 && b <= 57, letter = b >= 97 && b <= 122, sign = b == 59;
            AddressedToYou x = Check.fed(new AddressedToYou(), "wind 3");
            x.feed(b);
            C.due("wind 3, byte " + b, x.coast(), blank ? 1 : digit ? -2005 : sign ? -2007 : -2006);
            x.feed(b);
            C.due("byte " + b + " alone", x.coast(), blank ? -2001 : -2000);
            Check.fed(x, "day");
            x.feed(b);
            Check.fed(x, ";day 1");
            // a digit is the number, a letter makes another word
            C.due("day, byte " + b, x.coast(), blank ? -2004 : digit ? 2 : letter ? -2000 : -2003);
            Check.fed(x, "day ");
            x.feed(b);
            Check.fed(x, "1");
            C.due("day, byte " + b + ", 1", x.coast(), blank || digit ? 1 : -2004);
        }
    }

    private static void tokens() {
        C.part("tokens as long as can be, blanks anywhere between");
        reads("wind3", 1);
        reads("wind33", -2004);
        reads("wind3wind3", -2005);
        reads("wind3;wind3", 2);
        reads("   wind   3   ;   wind   3   ", 2);
        reads("cells20wind3", -2007);
        reads("cells2 0", -2005);
        reads("windwind 3", -2000);
        reads("wi nd 3", -2000);
        reads("win", -2000);
        reads("winds 3", -2000);
        reads("walkers 1 1 1", -2000);
        reads("abcdefghijklmnopqrstuvwxyz", -2000);
        reads("walker1 2 1", 1);
        reads("walker12 1", -2010);
        reads("walker1 2 1;bottle5 9 15 0;current15 6;day999;cells30", 5);
        reads("1 wind", -2000);
        reads(";", -2000);
        reads(" ;", -2001);
        reads("wind 3;;", -2007);
        reads("wind 3; ;wind 3", -2008);
        reads("wind ;3", -2005);
        reads("wind wind", -2005);
        reads("wind -3", -2005);
        reads("wind +3", -2005);
        reads("wind 3.", -2006);
        reads("wind 3,wind 3", -2006);
        reads("wind\t3", -2004);
        reads("WIND 3", -2000);
        reads("wind 3;Day 4", -2007);
    }

    private static void words() {
        C.part("words: each letter counts");
        String[] whole = {"cells 16", "walker 1 2 1", "bottle 1 2 3 0", "current 1 2", "wind 1", "day 1"};
        for (String text : whole) {
            int size = text.indexOf(' ');
            for (int i = 0; i < size; i++) {
                reads(CoastEdgesTest::oneThere, text.substring(0, i) + (text.charAt(i) == 'q' ? 'p' : 'q') + text.substring(i + 1), -2000);
                reads(CoastEdgesTest::oneThere, text.substring(0, i) + text.substring(i + 1), -2000);
                reads(CoastEdgesTest::oneThere, text.substring(0, i) + "e" + text.substring(i), -2000);
                // cut in two, it is two words
                if (i > 0) reads(CoastEdgesTest::oneThere, text.substring(0, i) + " " + text.substring(i), -2000);
            }
            reads(CoastEdgesTest::oneThere, text.substring(0, size) + "s" + text.substring(size), -2000);
            reads(CoastEdgesTest::oneThere, text.substring(size), -2001);
        }
    }

    private static void numbers() {
        C.part("numbers: at most 3 digits");
        reads("day 000", 1);
        reads("day 0000", -2004);
        reads("day 007", 1);
        reads("day 0007", -2004);
        reads("day 999", 1);
        reads("day 1000", -2004);
        reads("cells 016", 1);
        reads("cells 0016", -2006);
        reads("walker 000 003 001", 1);
        reads("walker 000 0003 001", -2011);
        C.part("numbers beyond an int, beyond a long");
        reads("day 4294967296", -2004);
        reads("day 4294967297", -2004);
        reads("wind 2147483648", -2005);
        reads("wind 18446744073709551617", -2005);
        C.part("numbers that may not be: the least and the greatest, and those just outside");
        fits("cells %", 20, 30);
        fits("walker % 0 0", 0, 19);
        fits("walker 0 % 0", 0, 3);
        fits("walker 0 0 %", 0, 1);
        fits("bottle % 0 0 0", 0, 5);
        fits("bottle 0 % 0 0", 0, 9);
        fits("bottle 0 0 % 0", 0, 19);
        fits("bottle 0 0 0 %", 0, 0);
        fits("current % 0", 0, 19);
        fits("current 0 %", 0, 6);
        fits("wind %", 0, 4);
        fits("day %", 0, 999);
    }

    private static void fits(String form, int least, int most) {
        int fault = -2000 - form.indexOf('%');
        reads(CoastEdgesTest::twenty, form.replace("%", "" + least), 1);
        reads(CoastEdgesTest::twenty, form.replace("%", "" + most), 1);
        if (least > 0) reads(CoastEdgesTest::twenty, form.replace("%", "" + (least - 1)), fault);
        reads(CoastEdgesTest::twenty, form.replace("%", "" + (most + 1)), fault);
        reads(CoastEdgesTest::twenty, form.replace("%", "999"), most == 999 ? 1 : fault);
        reads(CoastEdgesTest::twenty, form.replace("%", "w"), fault);
        reads(CoastEdgesTest::twenty, form.replace("%", ";"), fault);
        reads(CoastEdgesTest::twenty, form.replace("%", "-1"), fault);
    }

    private static void statements() {
        C.part("each statement does what the call of its kind does");
        AddressedToYou x = C.coast("cells 30;walker 29 3 1;walker 0 0 0;bottle 4 9 29 1;current 29 6;wind 4;day 999");
        int[] status = {1, 2, 30, 4, 999, 0, 1, 0, 1, 0};
        for (int i = 0; i < status.length; i++) C.due("status " + i, x.status(i), status[i]);
        int[] bottle = {4, 9, 29, 1, 0, 7};
        for (int i = 0; i < bottle.length; i++) C.due("bottleOf " + i, x.bottleOf(0, i), bottle[i]);
        int[] walker = {29, 3, 1, 0};
        for (int i = 0; i < walker.length; i++) C.due("walkerOf " + i, x.walkerOf(0, i), walker[i]);
        C.due("BOTTLES for the other", x.walkerOf(1, 3), 1);
        C.due("current", x.currentAt(29), 6);
        C.part("a later statement minds the ones ahead of it");
        reads("cells 30;walker 29 0 0;bottle 0 0 29 0;current 29 0", 4);
        reads("walker 16 0 0;cells 30", -2007);
        reads("current 16 0;cells 30", -2008);
        reads("cells 20;cells 20;cells 30;cells 30", 4);
        reads("cells 20;cells 19", -2015);
        reads("bottle 0 0 0 0;walker 0 0 0", -2013);
        reads("walker 0 0 0;bottle 0 0 0 0", 2);
        reads("walker 0 0 0;bottle 0 0 0 1;walker 0 0 0", -2026);
        reads("wind 1;wind 4;wind 0", 3);
        x = C.coast("wind 1;day 5;current 3 0;wind 4;day 7;current 3 6");
        C.due("the last told holds, WIND", x.status(3), 4);
        C.due("the last told holds, DAY", x.status(4), 7);
        C.due("the last told holds, CURRENT", x.currentAt(3), 6);
    }

    private static void endsTooEarly() {
        C.part("THE TAPE ends too early");
        reads("", -2000);
        reads(" ", -2001);
        String[] whole = {"cells 16", "walker 1 2 1", "bottle 1 2 3 0", "current 1 2", "wind 1", "day 1"};
        for (String text : whole) {
            for (int end = 1; end < text.length(); end++) {
                if (text.charAt(end) != ' ') continue;
                reads(CoastEdgesTest::oneThere, text.substring(0, end), -2000 - end);
                reads(CoastEdgesTest::oneThere, text.substring(0, end + 1), -2001 - end);
            }
            reads(CoastEdgesTest::oneThere, text, 1);
            reads(CoastEdgesTest::oneThere, text + " ", 1);
            reads(CoastEdgesTest::oneThere, text + ";", -2001 - text.length());
            reads(CoastEdgesTest::oneThere, text + " 1", -2001 - text.length());
            reads(CoastEdgesTest::oneThere, text + " wind 1", -2001 - text.length());
            reads(CoastEdgesTest::oneThere, text + ";" + text, 2);
        }
    }

    private static AddressedToYou oneThere() {
        return C.coast("walker 3 1 0");
    }

    private static void noRoom() {
        C.part("what there is no room for: its word, even where its numbers may not be, or are missing");
        StringBuilder t = new StringBuilder("walker 0 0 0");
        for (int i = 0; i < 5; i++) t.append(";walker 0 0 0");
        reads(t.toString(), 6);
        reads(t + ";walker 0 0 0", -2001 - t.length());
        reads(t + ";  walker 99 9 9", -2003 - t.length());
        reads(t + ";walker", -2001 - t.length());
        reads(t + ";walkers", -2001 - t.length());
        for (int i = 0; i < 8; i++) t.append(";bottle0 0 0 5");
        reads(t.toString(), 14);
        reads(t + ";bottle0 0 0 5", -2001 - t.length());
        reads(t + "; bottle", -2002 - t.length());
        reads(t + ";day 999", 15);
        C.part("a full coast takes what needs no room");
        AddressedToYou x = Check.full();
        x.wipe();
        Check.fed(x, "cells 30;current 29 6;wind 0;day 0");
        C.due("coast", x.coast(), 4);
        C.due("WALKERS", x.status(1), 6);
        C.due("BOTTLES", x.status(0), 8);
    }

    private static AddressedToYou mixedUntaped() {
        AddressedToYou x = Check.mixed();
        x.wipe();
        return x;
    }

    private static void allOrNothing() {
        C.part("all comes to what there is, or nothing");
        String text = "cells 25;walker 24 0 0;bottle 0 0 24 3;current 0 0;current 24 0;wind 0;day 5";
        reads(CoastEdgesTest::mixedUntaped, text + ";wind 5", -2006 - text.length());
        reads(CoastEdgesTest::mixedUntaped, text + ";", -2001 - text.length());
        reads(CoastEdgesTest::mixedUntaped, text, 7);
        AddressedToYou x = mixedUntaped();
        Check.fed(x, text);
        x.coast();
        int[] status = {5, 4, 25, 0, 5, 1, 3};
        for (int i = 0; i < status.length; i++) C.due("status " + i, x.status(i), status[i]);
        C.due("SEED stays", x.status(8), -5);
        C.due("SHELVES stay", x.status(9), 6);
        C.due("a current of the first", x.currentAt(0), 0);
        C.due("a current of a new one", x.currentAt(24), 0);
        C.due("one told of ahead of it", x.currentAt(12), 6);
        C.part("behind a fault, the cells it would have made have no current");
        x = new AddressedToYou();
        Check.fed(x, "cells 30;current 29 6;x");
        C.due("coast", x.coast(), -2022);
        x.paves(30);
        C.due("currentAt", x.currentAt(29), 3);
        C.part("one AFLOAT, FOUND, BROKEN stays so");
        x = mixedUntaped();
        int[] how = {0, 1, 2, 0};
        for (int b = 0; b < 4; b++) C.due("how " + b, x.bottleOf(b, 4), how[b]);
        Check.fed(x, "day 0").coast();
        for (int b = 0; b < 4; b++) C.due("how " + b, x.bottleOf(b, 4), how[b]);
    }
}
