/** A coast with currents and a wind, bottles that drift and break, and walkers who find their own. */
public final class AddressedToYou {
    public static final int NONE = -1;

    private static final int BAD = -1002;
    private static final int OTHER = -1003;
    private static final int NOTHING = -1004;
    private static final int STUCK = -1005;
    private static final int FULL = -1006;

    private static final int BOTTLE = 0;
    private static final int HEAVY = 1;
    private static final int LIGHT = 2;
    private static final int DEEP = 3;
    private static final int KITE = 4;
    private static final int BILL = 5;
    private static final int KINDS = 6;
    private static final int[] KIND_ABOVE = {-1, 0, 0, 1, 2, 0};

    private static final int AFLOAT = 0;
    private static final int FOUND = 1;
    private static final int BROKEN = 2;

    private static final int MOST_CELLS = 30;
    private static final int CELLS_AT_FIRST = 16;
    private static final int MOST_BOTTLES = 8;
    private static final int MOST_WALKERS = 6;
    private static final int WALKER_SETS = 64;
    private static final int MOST_A = 9;
    private static final int MOST_PACE = 3;
    private static final int MOST_CURRENT = 6;
    private static final int STILL = 3;
    private static final int WINDS = 5;
    private static final int CALM = 2;
    private static final int LAST_DAY = 999;
    private static final int HORIZON = 60;
    private static final int UNBREAKABLE = 99;
    private static final int ODDS_WHOLE = 1000000;
    // one pair more outweighs all days that pairs can take together
    private static final int PAIR_WORTH = 1000;

    private static final int MOST_SHELVES = 8;
    private static final int MOST_ELEMENTS = 40;
    private static final int BOOLEANS = 4;
    private static final int FIRST_BOTTLE_HELD = 10;
    private static final int MOST_BYTES = 250;

    private final World now = new World();
    private final World kept = new World();
    private final World trial = new World();
    private boolean hasImage = false;
    private final Shelf[] shelves = new Shelf[MOST_SHELVES];
    private final Tape tape = new Tape();
    private final int[] refusals = new int[5];
    private final Track track = new Track();
    private final Track otherTrack = new Track();
    private final Bottle thought = new Bottle();
    private final Walker stroller = new Walker();
    private final Walker otherStroller = new Walker();
    private final int[] visited = new int[MOST_BOTTLES];
    private final int[][] meetings = new int[MOST_BOTTLES][MOST_WALKERS];
    private final int[][] bestPairs = new int[MOST_BOTTLES + 1][WALKER_SETS];

    public AddressedToYou() {
        for (int i = 0; i < shelves.length; i++) {
            shelves[i] = new Shelf();
        }
    }

    public int row(int s, int sort, int n) {
        Shelf shelf = shelfAt(s);
        if (shelf == null || !within(sort, 0, BOOLEANS) || !within(n, 0, MOST_ELEMENTS)) {
            return refuse(BAD);
        }
        shelf.startRow(sort, n);
        return 1;
    }

    public int set(int s, int i, long v) {
        Shelf shelf = shelfAt(s);
        if (shelf == null) {
            return refuse(BAD);
        }
        if (!shelf.isRow()) {
            return refuse(shelf.whyNoRow());
        }
        if (!shelf.hasPlace(i)) {
            return refuse(BAD);
        }
        shelf.put(i, v);
        return 1;
    }

    public int copy(int p, int q, int i, int j, int n) {
        Shelf source = shelfAt(p);
        Shelf target = shelfAt(q);
        if (source == null || target == null) {
            return refuse(BAD);
        }
        if (source.isBottle() || target.isBottle()) {
            return refuse(OTHER);
        }
        boolean rows = source.isRow() && target.isRow();
        if (rows && source.content != target.content) {
            return refuse(OTHER);
        }
        if (!rows) {
            return refuse(NOTHING);
        }
        if (!source.hasSpan(i, n) || !target.hasSpan(j, n)) {
            return refuse(BAD);
        }
        System.arraycopy(source.items, i, target.items, j, n);
        return n;
    }

    public long element(int s, int i) {
        Shelf shelf = shelfAt(s);
        return shelf == null ? 0L : shelf.take(i);
    }

    public int holds(int s) {
        Shelf shelf = shelfAt(s);
        return shelf == null ? NONE : shelf.content;
    }

    public int show(int s, int bottle) {
        Shelf shelf = shelfAt(s);
        boolean known = bottle == NONE || now.bottleAt(bottle) != null;
        if (shelf == null || !known) {
            return refuse(BAD);
        }
        shelf.content = bottle == NONE ? NONE : FIRST_BOTTLE_HELD + bottle;
        return 1;
    }

    public int says(int s, int kind) {
        Shelf shelf = shelfAt(s);
        if (shelf == null || !isKind(kind)) {
            return refuse(BAD);
        }
        if (shelf.isRow()) {
            return refuse(OTHER);
        }
        if (shelf.isEmpty()) {
            return refuse(NOTHING);
        }
        Bottle b = now.bottleAt(shelf.content - FIRST_BOTTLE_HELD);
        if (b == null || !isOrIsUnder(b.kind, kind)) {
            return refuse(OTHER);
        }
        return kind == BOTTLE ? b.cell : now.push(b, now.day);
    }

    public int paves(int n) {
        if (!within(n, now.cells, MOST_CELLS)) {
            return refuse(BAD);
        }
        int before = now.cells;
        now.cells = n;
        return before;
    }

    public int walker(int cell, int pace, int way) {
        if (!now.hasCell(cell) || !within(pace, 0, MOST_PACE) || !within(way, 0, 1)) {
            return refuse(BAD);
        }
        if (!now.hasRoomForWalker()) {
            return refuse(FULL);
        }
        return now.addWalker(cell, pace, way);
    }

    public int sends(int walker, int what, int v) {
        Walker w = now.walkerAt(walker);
        if (w == null || !within(what, 0, 2)) {
            return refuse(BAD);
        }
        int most = what == 0 ? now.cells - 1 : what == 1 ? MOST_PACE : 1;
        if (!within(v, 0, most)) {
            return refuse(BAD);
        }
        int before = w.tellOf(what);
        if (what == 0) {
            w.at = v;
        } else if (what == 1) {
            w.pace = v;
        } else {
            w.way = v;
        }
        return before;
    }

    public int current(int cell, int v) {
        if (!now.hasCell(cell) || !within(v, 0, MOST_CURRENT)) {
            return refuse(BAD);
        }
        int before = now.flow(cell);
        now.setFlow(cell, v);
        return before;
    }

    public int tell(int what, int v) {
        if (what == 0 && within(v, 0, WINDS - 1)) {
            int before = now.wind;
            now.wind = v;
            return before;
        }
        if (what == 1 && within(v, 0, LAST_DAY)) {
            int before = now.day;
            now.day = v;
            return before;
        }
        return refuse(BAD);
    }

    public int feed(int letter) {
        if (!within(letter, 0, 255)) {
            return refuse(BAD);
        }
        if (!tape.hasRoom()) {
            return refuse(FULL);
        }
        return tape.append(letter);
    }

    public int wipe() {
        int before = tape.size;
        tape.size = 0;
        return before;
    }

    public int coast() {
        trial.become(now);
        int statements = tape.readInto(trial);
        tape.size = 0;
        if (statements == NONE) {
            refuse(BAD);
            return -2000 - tape.start;
        }
        now.become(trial);
        return statements;
    }

    public int bottleOf(int bottle, int what) {
        Bottle b = now.bottleAt(bottle);
        if (b == null || !within(what, 0, 5)) {
            return refuse(BAD);
        }
        return b.tellOf(what);
    }

    public int walkerOf(int walker, int what) {
        Walker w = now.walkerAt(walker);
        if (w == null || !within(what, 0, 3)) {
            return refuse(BAD);
        }
        return what == 3 ? now.addressedTo(walker) : w.tellOf(what);
    }

    public int currentAt(int cell) {
        return now.hasCell(cell) ? now.flow(cell) : refuse(BAD);
    }

    public int ahead(int bottle, int n, int what) {
        Bottle b = now.bottleAt(bottle);
        if (b == null || !within(n, 0, HORIZON) || !within(what, 0, 1)) {
            return refuse(BAD);
        }
        now.follow(track, b, now.walkerAt(b.whose), n);
        return what == 0 ? track.cellAt(n) : track.howAt(n);
    }

    public int walks(int walker, int n) {
        Walker w = now.walkerAt(walker);
        if (w == null || !within(n, 0, HORIZON)) {
            return refuse(BAD);
        }
        stroller.become(w);
        for (int d = 1; d <= n; d++) {
            stroller.stroll(now.cells);
        }
        return stroller.at;
    }

    public int found(int n) {
        return within(n, 0, HORIZON) ? now.countFound(n) : refuse(BAD);
    }

    public int when(int bottle) {
        Bottle b = now.bottleAt(bottle);
        return b == null ? refuse(BAD) : now.daysTillFound(b);
    }

    public int meets(int bottle, int walker) {
        Bottle b = now.bottleAt(bottle);
        Walker w = now.walkerAt(walker);
        if (b == null || w == null) {
            return refuse(BAD);
        }
        now.follow(track, b, null, HORIZON);
        return firstMeeting(w, HORIZON);
    }

    public int finder(int bottle) {
        Bottle b = now.bottleAt(bottle);
        if (b == null) {
            return refuse(BAD);
        }
        now.follow(track, b, null, HORIZON);
        int best = NONE;
        int least = HORIZON + 1;
        for (int k = 0; k < now.walkerCount; k++) {
            int days = firstMeeting(now.walkerAt(k), HORIZON);
            if (days != NONE && days < least) {
                least = days;
                best = k;
            }
        }
        return best;
    }

    public int two(int walker, int other) {
        Walker w = now.walkerAt(walker);
        Walker o = now.walkerAt(other);
        if (w == null || o == null || walker == other) {
            return refuse(BAD);
        }
        stroller.become(w);
        otherStroller.become(o);
        for (int d = 0; d <= HORIZON; d++) {
            if (stroller.at == otherStroller.at) {
                return d;
            }
            stroller.stroll(now.cells);
            otherStroller.stroll(now.cells);
        }
        return NONE;
    }

    public int aim(int kind, int a, int walker, int what) {
        Walker w = now.walkerAt(walker);
        if (!isKind(kind) || !within(a, 0, MOST_A) || w == null || !within(what, 0, 1)) {
            return refuse(BAD);
        }
        int best = NONE;
        int least = NONE;
        for (int c = 0; c < now.cells; c++) {
            thought.start(kind, a, c, walker);
            int days = now.soonest(thought, w, HORIZON);
            if (days != NONE && (least == NONE || days < least)) {
                best = c;
                least = days;
            }
        }
        return what == 0 ? best : least;
    }

    public int walk(int walker, int n, int what) {
        if (now.walkerAt(walker) == null || !within(n, 1, 30) || !within(what, 0, 1)) {
            return refuse(BAD);
        }
        int best = 0;
        int most = NONE;
        for (int pace = 0; pace <= MOST_PACE; pace++) {
            for (int way = 0; way <= 1; way++) {
                int count = foundWalking(walker, pace, way, n);
                if (count > most) {
                    most = count;
                    best = 10 * pace + way;
                }
            }
        }
        return what == 0 ? best : most;
    }

    public int fits(int s, int n, int bottle, int what) {
        Shelf shelf = shelfAt(s);
        Bottle b = now.bottleAt(bottle);
        if (shelf == null || !within(n, 1, MOST_ELEMENTS) || b == null || !within(what, 0, 1)) {
            return refuse(BAD);
        }
        if (!shelf.isRow()) {
            return refuse(shelf.whyNoRow());
        }
        if (shelf.size < n) {
            return refuse(BAD);
        }
        int several = what == 0 ? WINDS : KINDS;
        int bits = 0;
        trial.become(now);
        for (int k = 0; k < several; k++) {
            if (what == 0) {
                trial.wind = k;
            }
            if (driftsAlong(shelf, n, what == 0 ? b.kind : k, b.a)) {
                bits |= 1 << k;
            }
        }
        return bits;
    }

    public int from(int bottle, int n, int cell) {
        Bottle b = now.bottleAt(bottle);
        if (b == null || !within(n, 0, 30) || !now.hasCell(cell)) {
            return refuse(BAD);
        }
        int bits = 0;
        for (int c = 0; c < now.cells; c++) {
            // thought of there, it is AFLOAT there, however it is in truth
            thought.start(b.kind, b.a, c, NONE);
            now.follow(track, thought, null, n);
            if (track.howAt(n) == AFLOAT && track.cellAt(n) == cell) {
                bits |= 1 << c;
            }
        }
        return bits;
    }

    public int pairs(int t, int bottle) {
        boolean asked = bottle == -2 || bottle == NONE || now.bottleAt(bottle) != null;
        if (!within(t, 1, HORIZON) || !asked) {
            return refuse(BAD);
        }
        fillMeetings(t);
        fillBestPairs();
        if (bottle >= 0) {
            return partnerOf(bottle);
        }
        int score = bestFrom(0, 0);
        int count = (score + PAIR_WORTH - 1) / PAIR_WORTH;
        return bottle == NONE ? count * PAIR_WORTH - score : count;
    }

    public int mended(int bottle, int what) {
        Bottle b = now.bottleAt(bottle);
        if (b == null || !within(what, 0, 1)) {
            return refuse(BAD);
        }
        int asItIs = now.daysTillFound(b);
        now.follow(track, b, now.walkerAt(b.whose), HORIZON);
        int passed = track.cellsVisited(HORIZON);
        int best = NONE;
        int least = NONE;
        trial.become(now);
        for (int c = 0; c < now.cells; c++) {
            // a current where it never is changes nothing for it
            boolean matters = (passed >> c & 1) != 0;
            int own = now.flow(c);
            for (int v = 0; v <= MOST_CURRENT; v++) {
                trial.setFlow(c, v);
                int days = v == own ? NONE : matters ? trial.daysTillFound(b) : asItIs;
                if (days != NONE && (least == NONE || days < least)) {
                    least = days;
                    best = 10 * c + v;
                }
            }
            trial.setFlow(c, own);
        }
        return what == 0 ? best : least;
    }

    public int odds(int bottle, int t, int what) {
        Bottle b = now.bottleAt(bottle);
        if (b == null || !within(t, 0, 4) || !within(what, 0, 1)) {
            return refuse(BAD);
        }
        int wanted = what == 0 ? FOUND : BROKEN;
        int all = 1;
        for (int d = 0; d < t; d++) {
            all *= WINDS;
        }
        int so = 0;
        trial.become(now);
        for (int winds = 0; winds < all; winds++) {
            if (endsBy(b, t, winds) == wanted) {
                so++;
            }
        }
        return all <= 0 ? 0 : so * ODDS_WHOLE / all;
    }

    public int windFor(int bottle) {
        Bottle b = now.bottleAt(bottle);
        if (b == null) {
            return refuse(BAD);
        }
        int best = NONE;
        int least = NONE;
        trial.become(now);
        for (int wind = 0; wind < WINDS; wind++) {
            trial.wind = wind;
            int days = trial.daysTillFound(b);
            if (days != NONE && (least == NONE || days < least)) {
                least = days;
                best = wind;
            }
        }
        return best;
    }

    public int bestWind(int n, int what) {
        if (!within(n, 0, HORIZON) || !within(what, 0, 1)) {
            return refuse(BAD);
        }
        int best = 0;
        int most = NONE;
        trial.become(now);
        for (int wind = 0; wind < WINDS; wind++) {
            trial.wind = wind;
            int count = trial.countFound(n);
            if (count > most) {
                most = count;
                best = wind;
            }
        }
        return what == 0 ? best : most;
    }

    public int who(int what) {
        if (!within(what, 0, 3)) {
            return refuse(BAD);
        }
        int bits = 0;
        for (int i = 0; i < now.bottleCount; i++) {
            Bottle b = now.bottleAt(i);
            if (b == null) {
                continue;
            }
            boolean so = what == 3
                ? b.how == AFLOAT && now.daysTillFound(b) != NONE
                : b.how == what;
            if (so) {
                bits |= 1 << i;
            }
        }
        return bits;
    }

    public int there(int cell, int what) {
        if (!now.hasCell(cell) || !within(what, 0, 1)) {
            return refuse(BAD);
        }
        return what == 0 ? now.afloatIn(cell) : now.walkersAt(cell);
    }

    public int settles(int bottle) {
        Bottle b = now.bottleAt(bottle);
        if (b == null) {
            return refuse(BAD);
        }
        now.follow(track, b, null, HORIZON);
        int seen = 1 << track.cellAt(0);
        for (int d = 1; d <= HORIZON; d++) {
            int here = 1 << track.cellAt(d);
            if (track.howAt(d) == BROKEN) {
                return NONE;
            }
            if ((seen & here) != 0) {
                return d;
            }
            seen |= here;
        }
        return NONE;
    }

    public int reach(int bottle, int what) {
        Bottle b = now.bottleAt(bottle);
        if (b == null || !within(what, 0, 1)) {
            return refuse(BAD);
        }
        now.follow(track, b, null, HORIZON);
        int end = track.cellAt(0);
        for (int d = 1; d <= HORIZON; d++) {
            int here = track.cellAt(d);
            end = what == 0 ? Math.min(end, here) : Math.max(end, here);
        }
        return end;
    }

    public int busiest(int what) {
        if (!within(what, 0, 1)) {
            return refuse(BAD);
        }
        fillVisited();
        int best = 0;
        int most = NONE;
        for (int c = 0; c < now.cells; c++) {
            int count = 0;
            for (int i = 0; i < now.bottleCount && i < visited.length; i++) {
                count += visited[i] >> c & 1;
            }
            if (count > most) {
                most = count;
                best = c;
            }
        }
        return what == 0 ? best : most;
    }

    public int round(int walker) {
        Walker w = now.walkerAt(walker);
        if (w == null) {
            return refuse(BAD);
        }
        stroller.become(w);
        for (int d = 1; d <= HORIZON; d++) {
            stroller.stroll(now.cells);
            if (stroller.at == w.at && stroller.way == w.way) {
                return d;
            }
        }
        return NONE;
    }

    public int join(int bottle, int other) {
        Bottle b = now.bottleAt(bottle);
        Bottle o = now.bottleAt(other);
        if (b == null || o == null || bottle == other) {
            return refuse(BAD);
        }
        now.follow(track, b, null, HORIZON);
        now.follow(otherTrack, o, null, HORIZON);
        for (int d = 0; d <= HORIZON; d++) {
            boolean afloat = track.howAt(d) == AFLOAT && otherTrack.howAt(d) == AFLOAT;
            if (afloat && track.cellAt(d) == otherTrack.cellAt(d)) {
                return d;
            }
        }
        return NONE;
    }

    public int breaks(int bottle) {
        Bottle b = now.bottleAt(bottle);
        if (b == null) {
            return refuse(BAD);
        }
        now.follow(track, b, now.walkerAt(b.whose), HORIZON);
        for (int d = 0; d <= HORIZON; d++) {
            if (track.howAt(d) == BROKEN) {
                return d;
            }
        }
        return NONE;
    }

    public int first(int walker) {
        if (now.walkerAt(walker) == null) {
            return refuse(BAD);
        }
        int best = NONE;
        int least = NONE;
        for (int i = 0; i < now.bottleCount; i++) {
            Bottle b = now.bottleAt(i);
            if (b == null || b.whose != walker || b.how != AFLOAT) {
                continue;
            }
            int days = now.daysTillFound(b);
            if (days != NONE && (least == NONE || days < least)) {
                least = days;
                best = i;
            }
        }
        return best;
    }

    public int next(int kind, int a, int cell) {
        if (!isKind(kind) || !within(a, 0, MOST_A) || !now.hasCell(cell)) {
            return refuse(BAD);
        }
        thought.start(kind, a, cell, NONE);
        now.spend(thought, now.day, NONE);
        return thought.how == BROKEN ? NONE : thought.cell;
    }

    public int stays(int kind, int a) {
        if (!isKind(kind) || !within(a, 0, MOST_A)) {
            return refuse(BAD);
        }
        int bits = 0;
        for (int c = 0; c < now.cells; c++) {
            thought.start(kind, a, c, NONE);
            now.spend(thought, now.day, NONE);
            if (thought.cell == c) {
                bits |= 1 << c;
            }
        }
        return bits;
    }

    public int strays() {
        int bits = 0;
        for (int i = 0; i < now.bottleCount; i++) {
            Bottle b = now.bottleAt(i);
            if (b == null) {
                continue;
            }
            now.follow(track, b, now.walkerAt(b.whose), HORIZON);
            if (track.howAt(HORIZON) == AFLOAT) {
                bits |= 1 << i;
            }
        }
        return bits;
    }

    public int ofKind(int kind) {
        if (!isKind(kind)) {
            return refuse(BAD);
        }
        int count = 0;
        for (int i = 0; i < now.bottleCount; i++) {
            Bottle b = now.bottleAt(i);
            if (b != null && b.kind == kind) {
                count++;
            }
        }
        return count;
    }

    public int judge(int s, int n, int bottle) {
        Shelf shelf = shelfAt(s);
        Bottle b = now.bottleAt(bottle);
        if (shelf == null || !within(n, 0, MOST_ELEMENTS) || b == null) {
            return refuse(BAD);
        }
        if (!shelf.isRow()) {
            return refuse(shelf.whyNoRow());
        }
        if (shelf.size < n) {
            return refuse(BAD);
        }
        now.follow(track, b, now.walkerAt(b.whose), n);
        for (int i = 0; i < n; i++) {
            if (shelf.take(i) != track.cellAt(i + 1)) {
                return i;
            }
        }
        return NONE;
    }

    public int thrown(int kind, int a, int cell, int walker) {
        boolean known = now.hasCell(cell) && now.walkerAt(walker) != null;
        if (!isKind(kind) || !within(a, 0, MOST_A) || !known) {
            return refuse(BAD);
        }
        if (!now.hasRoomForBottle()) {
            return refuse(FULL);
        }
        return now.addBottle(kind, a, cell, walker);
    }

    public int days(int n) {
        if (!within(n, 1, HORIZON)) {
            return refuse(BAD);
        }
        for (int d = 0; d < n; d++) {
            now.passDay();
        }
        return now.answered;
    }

    public int drawn(int n) {
        if (!within(n, 1, HORIZON)) {
            return refuse(BAD);
        }
        if (now.bottleCount == 0) {
            return refuse(STUCK);
        }
        int count = 0;
        for (int d = 0; d < n; d++) {
            count += now.passDrawnDay();
        }
        return count;
    }

    public int seed(int v) {
        int before = now.seed;
        now.seed = v;
        return before;
    }

    public int image() {
        kept.become(now);
        hasImage = true;
        return 1;
    }

    public int back() {
        if (!hasImage) {
            return refuse(STUCK);
        }
        now.become(kept);
        for (int s = 0; s < shelves.length; s++) {
            Shelf shelf = shelfAt(s);
            if (shelf != null && shelf.isBottle()
                && now.bottleAt(shelf.content - FIRST_BOTTLE_HELD) == null) {
                shelf.content = NONE;
            }
        }
        return 1;
    }

    public int status(int what) {
        switch (what) {
            case 0: return now.bottleCount;
            case 1: return now.walkerCount;
            case 2: return now.cells;
            case 3: return now.wind;
            case 4: return now.day;
            case 5: return now.answered;
            case 6: return Integer.bitCount(who(0));
            case 7: return tape.size;
            case 8: return now.seed;
            case 9: return shelvesInUse();
            default: return within(what, 12, 16) ? refusals[what - 12] : NONE;
        }
    }

    private static boolean within(int v, int least, int most) {
        return v >= least && v <= most;
    }

    private static boolean isKind(int kind) {
        return within(kind, 0, KINDS - 1);
    }

    private static boolean isOrIsUnder(int kind, int wanted) {
        int k = kind;
        for (int level = 0; level < KINDS && isKind(k); level++) {
            if (k == wanted) {
                return true;
            }
            k = KIND_ABOVE[k];
        }
        return false;
    }

    private static int toughnessOf(int kind, int a) {
        switch (kind) {
            case HEAVY: return 5;
            case DEEP: return 5;
            case LIGHT: return 4;
            case KITE: return 4 + a / 3;
            case BILL: return UNBREAKABLE;
            default: return 3;
        }
    }

    private int refuse(int number) {
        int place = BAD - number;
        if (place >= 0 && place < refusals.length) {
            refusals[place]++;
        }
        return number;
    }

    private Shelf shelfAt(int s) {
        return s >= 0 && s < shelves.length ? shelves[s] : null;
    }

    private int shelvesInUse() {
        int count = 0;
        for (int s = 0; s < shelves.length; s++) {
            if (holds(s) != NONE) {
                count++;
            }
        }
        return count;
    }

    /** The first day, up to a limit, behind which the walker and the bottle of the track are in one cell. */
    private int firstMeeting(Walker w, int limit) {
        if (w == null) {
            return NONE;
        }
        stroller.become(w);
        for (int d = 1; d <= limit; d++) {
            stroller.stroll(now.cells);
            if (track.howAt(d) == AFLOAT && track.cellAt(d) == stroller.at) {
                return d;
            }
        }
        return NONE;
    }

    private int foundWalking(int walker, int pace, int way, int n) {
        Walker w = now.walkerAt(walker);
        if (w == null) {
            return 0;
        }
        otherStroller.start(w.at, pace, way);
        int count = 0;
        for (int i = 0; i < now.bottleCount; i++) {
            Bottle b = now.bottleAt(i);
            if (b != null && b.whose == walker && b.how == AFLOAT
                && now.soonest(b, otherStroller, n) != NONE) {
                count++;
            }
        }
        return count;
    }

    /** Whether a bottle for nobody, AFLOAT in the row's first cell, goes as the row tells in the trial's world. */
    private boolean driftsAlong(Shelf shelf, int n, int kind, int a) {
        long start = shelf.take(0);
        if (start < 0 || start >= trial.cells) {
            return false;
        }
        thought.start(kind, a, (int) start, NONE);
        for (int i = 1; i < n; i++) {
            trial.spend(thought, trial.dayBehind(i - 1), NONE);
            if (thought.how == BROKEN || thought.cell != shelf.take(i)) {
                return false;
            }
        }
        return true;
    }

    /** How a bottle is behind t days whose winds are the digits, to the base 5, of a number. */
    private int endsBy(Bottle b, int t, int winds) {
        Walker w = now.walkerAt(b.whose);
        if (w == null) {
            return b.how;
        }
        thought.become(b);
        stroller.become(w);
        int left = winds;
        for (int d = 0; d < t; d++) {
            trial.wind = left % WINDS;
            left /= WINDS;
            stroller.stroll(trial.cells);
            trial.spend(thought, trial.dayBehind(d), stroller.at);
        }
        return thought.how;
    }

    private void fillVisited() {
        for (int i = 0; i < visited.length; i++) {
            Bottle b = now.bottleAt(i);
            visited[i] = 0;
            if (b != null) {
                now.follow(track, b, null, HORIZON);
                visited[i] = track.cellsVisited(HORIZON);
            }
        }
    }

    private void fillMeetings(int t) {
        for (int i = 0; i < MOST_BOTTLES; i++) {
            Bottle b = now.bottleAt(i);
            if (b != null) {
                now.follow(track, b, null, t);
            }
            for (int k = 0; k < MOST_WALKERS; k++) {
                meetings[i][k] = b == null ? NONE : firstMeeting(now.walkerAt(k), t);
            }
        }
    }

    /** For the bottles from each one on, by the set of walkers that are taken: the best that can still come. */
    private void fillBestPairs() {
        for (int set = 0; set < WALKER_SETS; set++) {
            bestPairs[MOST_BOTTLES][set] = 0;
        }
        for (int i = MOST_BOTTLES - 1; i >= 0; i--) {
            for (int set = 0; set < WALKER_SETS; set++) {
                int best = bestFrom(i + 1, set);
                for (int k = 0; k < MOST_WALKERS; k++) {
                    best = Math.max(best, pairingScore(i, k, set));
                }
                bestPairs[i][set] = best;
            }
        }
    }

    private int bestFrom(int i, int set) {
        return within(i, 0, MOST_BOTTLES) && within(set, 0, WALKER_SETS - 1) ? bestPairs[i][set] : 0;
    }

    private int pairingScore(int i, int k, int set) {
        if (!within(i, 0, MOST_BOTTLES - 1) || !within(k, 0, MOST_WALKERS - 1)) {
            return NONE;
        }
        int days = meetings[i][k];
        if (days == NONE || (set >> k & 1) != 0) {
            return NONE;
        }
        return PAIR_WORTH - days + bestFrom(i + 1, set | 1 << k);
    }

    /** Whom a bottle has when each in turn takes the first walker by which the best still comes. */
    private int partnerOf(int bottle) {
        int set = 0;
        int partner = NONE;
        for (int i = 0; i <= bottle && i < MOST_BOTTLES; i++) {
            partner = NONE;
            for (int k = 0; k < MOST_WALKERS && partner == NONE; k++) {
                if (pairingScore(i, k, set) == bestFrom(i, set)) {
                    partner = k;
                }
            }
            if (partner != NONE) {
                set |= 1 << partner;
            }
        }
        return partner;
    }

    private static final class Bottle {
        int kind = BOTTLE;
        int a = 0;
        int cell = 0;
        int whose = NONE;
        int how = AFLOAT;

        void start(int newKind, int newA, int newCell, int newWhose) {
            kind = newKind;
            a = newA;
            cell = newCell;
            whose = newWhose;
            how = AFLOAT;
        }

        void become(Bottle other) {
            kind = other.kind;
            a = other.a;
            cell = other.cell;
            whose = other.whose;
            how = other.how;
        }

        int tellOf(int what) {
            switch (what) {
                case 0: return kind;
                case 1: return a;
                case 2: return cell;
                case 3: return whose;
                case 4: return how;
                default: return toughnessOf(kind, a);
            }
        }
    }

    private static final class Walker {
        int at = 0;
        int pace = 0;
        int way = 0;

        void start(int newAt, int newPace, int newWay) {
            at = newAt;
            pace = newPace;
            way = newWay;
        }

        void become(Walker other) {
            start(other.at, other.pace, other.way);
        }

        int tellOf(int what) {
            return what == 0 ? at : what == 1 ? pace : way;
        }

        void stroll(int cells) {
            for (int step = 0; step < pace; step++) {
                if (way == 0 && at >= cells - 1) {
                    way = 1;
                } else if (way == 1 && at <= 0) {
                    way = 0;
                }
                at += way == 0 ? 1 : -1;
            }
        }
    }

    /** Where a bottle is, and how, behind 0 days, 1 day, 2 days and so on. */
    private static final class Track {
        private final int[] cells = new int[HORIZON + 1];
        private final int[] hows = new int[HORIZON + 1];

        void mark(int d, Bottle b) {
            if (d >= 0 && d < cells.length && d < hows.length) {
                cells[d] = b.cell;
                hows[d] = b.how;
            }
        }

        int cellAt(int d) {
            return d >= 0 && d < cells.length ? cells[d] : NONE;
        }

        int howAt(int d) {
            return d >= 0 && d < hows.length ? hows[d] : NONE;
        }

        int cellsVisited(int lastDay) {
            int bits = 0;
            for (int d = 0; d <= lastDay; d++) {
                bits |= 1 << cellAt(d);
            }
            return bits;
        }
    }

    /** All that an image keeps, and what a day does to it. */
    private static final class World {
        int cells = CELLS_AT_FIRST;
        int wind = CALM;
        int day = 0;
        int answered = 0;
        int seed = 1;
        int bottleCount = 0;
        int walkerCount = 0;
        private final int[] currents = new int[MOST_CELLS];
        private final Bottle[] bottles = new Bottle[MOST_BOTTLES];
        private final Walker[] walkers = new Walker[MOST_WALKERS];
        private final Bottle roamer = new Bottle();
        private final Walker pacer = new Walker();

        World() {
            for (int c = 0; c < currents.length; c++) {
                currents[c] = STILL;
            }
            for (int i = 0; i < bottles.length; i++) {
                bottles[i] = new Bottle();
            }
            for (int k = 0; k < walkers.length; k++) {
                walkers[k] = new Walker();
            }
        }

        void become(World other) {
            cells = other.cells;
            wind = other.wind;
            day = other.day;
            answered = other.answered;
            seed = other.seed;
            bottleCount = other.bottleCount;
            walkerCount = other.walkerCount;
            for (int c = 0; c < currents.length; c++) {
                currents[c] = other.flow(c);
            }
            for (int i = 0; i < bottleCount; i++) {
                Bottle mine = bottleAt(i);
                Bottle theirs = other.bottleAt(i);
                if (mine != null && theirs != null) {
                    mine.become(theirs);
                }
            }
            for (int k = 0; k < walkerCount; k++) {
                Walker mine = walkerAt(k);
                Walker theirs = other.walkerAt(k);
                if (mine != null && theirs != null) {
                    mine.become(theirs);
                }
            }
        }

        Bottle bottleAt(int i) {
            return i >= 0 && i < bottleCount && i < bottles.length ? bottles[i] : null;
        }

        Walker walkerAt(int k) {
            return k >= 0 && k < walkerCount && k < walkers.length ? walkers[k] : null;
        }

        boolean hasCell(int c) {
            return c >= 0 && c < cells;
        }

        boolean hasRoomForBottle() {
            return bottleCount < bottles.length;
        }

        boolean hasRoomForWalker() {
            return walkerCount < walkers.length;
        }

        int flow(int c) {
            return c >= 0 && c < currents.length ? currents[c] : STILL;
        }

        void setFlow(int c, int v) {
            if (c >= 0 && c < currents.length) {
                currents[c] = v;
            }
        }

        int addBottle(int kind, int a, int cell, int whose) {
            int number = bottleCount;
            if (!hasRoomForBottle()) {
                return NONE;
            }
            bottleCount++;
            Bottle b = bottleAt(number);
            if (b != null) {
                b.start(kind, a, cell, whose);
            }
            return number;
        }

        int addWalker(int cell, int pace, int way) {
            int number = walkerCount;
            if (!hasRoomForWalker()) {
                return NONE;
            }
            walkerCount++;
            Walker w = walkerAt(number);
            if (w != null) {
                w.start(cell, pace, way);
            }
            return number;
        }

        int addressedTo(int walker) {
            int bits = 0;
            for (int i = 0; i < bottleCount; i++) {
                Bottle b = bottleAt(i);
                if (b != null && b.whose == walker) {
                    bits |= 1 << i;
                }
            }
            return bits;
        }

        int afloatIn(int cell) {
            int bits = 0;
            for (int i = 0; i < bottleCount; i++) {
                Bottle b = bottleAt(i);
                if (b != null && b.how == AFLOAT && b.cell == cell) {
                    bits |= 1 << i;
                }
            }
            return bits;
        }

        int walkersAt(int cell) {
            int bits = 0;
            for (int k = 0; k < walkerCount; k++) {
                Walker w = walkerAt(k);
                if (w != null && w.at == cell) {
                    bits |= 1 << k;
                }
            }
            return bits;
        }

        int dayBehind(int d) {
            return Math.min(LAST_DAY, day + d);
        }

        /** How many cells up a bottle would go on a day, neither ends nor breaking minded. */
        int push(Bottle b, int today) {
            int water = flow(b.cell) - STILL;
            int air = wind - CALM;
            switch (b.kind) {
                case HEAVY: return water;
                case DEEP: return today % 2 == 0 ? water : 0;
                case LIGHT: return water + 2 * air;
                case KITE: return water + 2 * air + b.a % 3 - 1;
                default: return water + air;
            }
        }

        /** A bottle's day, at whose end the one it is for is in a cell (NONE: it is for nobody). */
        void spend(Bottle b, int today, int finderAt) {
            if (b.how != AFLOAT) {
                return;
            }
            int up = push(b, today);
            if (Math.abs(up) > toughnessOf(b.kind, b.a)) {
                b.how = BROKEN;
                return;
            }
            b.cell = Math.max(0, Math.min(cells - 1, b.cell + up));
            if (b.cell == finderAt) {
                b.how = FOUND;
            }
        }

        /** Writes a bottle's days into a track; a finder of null stands for nobody. */
        void follow(Track t, Bottle b, Walker finder, int days) {
            roamer.become(b);
            if (finder != null) {
                pacer.become(finder);
            }
            t.mark(0, roamer);
            for (int d = 1; d <= days; d++) {
                if (finder != null) {
                    pacer.stroll(cells);
                }
                spend(roamer, dayBehind(d - 1), finder == null ? NONE : pacer.at);
                t.mark(d, roamer);
            }
        }

        /** Behind how many days, up to a limit, the finder finds a bottle; 0 when it is found already. */
        int soonest(Bottle b, Walker finder, int limit) {
            if (b.how == FOUND) {
                return 0;
            }
            if (finder == null) {
                return NONE;
            }
            roamer.become(b);
            pacer.become(finder);
            for (int d = 1; d <= limit && roamer.how == AFLOAT; d++) {
                pacer.stroll(cells);
                spend(roamer, dayBehind(d - 1), pacer.at);
                if (roamer.how == FOUND) {
                    return d;
                }
            }
            return NONE;
        }

        int daysTillFound(Bottle b) {
            return soonest(b, walkerAt(b.whose), HORIZON);
        }

        int countFound(int n) {
            int count = 0;
            for (int i = 0; i < bottleCount; i++) {
                Bottle b = bottleAt(i);
                if (b != null && b.how == AFLOAT && soonest(b, walkerAt(b.whose), n) != NONE) {
                    count++;
                }
            }
            return count;
        }

        /** One day in truth: how many were found. Walkers may go first: bottles do not mind them till the end. */
        int passDay() {
            for (int k = 0; k < walkerCount; k++) {
                Walker w = walkerAt(k);
                if (w != null) {
                    w.stroll(cells);
                }
            }
            int count = 0;
            for (int i = 0; i < bottleCount; i++) {
                Bottle b = bottleAt(i);
                if (b == null || b.how != AFLOAT) {
                    continue;
                }
                Walker w = walkerAt(b.whose);
                spend(b, day, w == null ? NONE : w.at);
                if (b.how == FOUND) {
                    count++;
                }
            }
            answered += count;
            day = dayBehind(1);
            return count;
        }

        int passDrawnDay() {
            wind = draw(WINDS);
            Bottle b = bottleAt(draw(bottleCount));
            int cell = draw(cells);
            if (b != null && b.how != AFLOAT) {
                b.how = AFLOAT;
                b.cell = cell;
            }
            return passDay();
        }

        private int draw(int below) {
            seed = seed * 1103515245 + 12345;
            return below <= 0 ? 0 : (seed >>> 16) % below;
        }
    }

    private static final class Shelf {
        int content = NONE;
        int size = 0;
        final long[] items = new long[MOST_ELEMENTS];

        boolean isEmpty() {
            return content == NONE;
        }

        boolean isRow() {
            return content >= 0 && content <= BOOLEANS;
        }

        boolean isBottle() {
            return content >= FIRST_BOTTLE_HELD;
        }

        int whyNoRow() {
            return isBottle() ? OTHER : NOTHING;
        }

        boolean hasPlace(int i) {
            return i >= 0 && i < size && i < items.length;
        }

        boolean hasSpan(int i, int n) {
            return i >= 0 && n >= 0 && size <= items.length && n <= size - i;
        }

        void startRow(int sort, int n) {
            content = sort;
            size = Math.max(0, Math.min(n, items.length));
            for (int i = 0; i < items.length; i++) {
                items[i] = 0L;
            }
        }

        void put(int i, long v) {
            if (isRow() && hasPlace(i)) {
                items[i] = narrowed(v);
            }
        }

        long take(int i) {
            return isRow() && hasPlace(i) ? items[i] : 0L;
        }

        private long narrowed(long v) {
            switch (content) {
                case 0: return (byte) v;
                case 1: return (short) v;
                case 2: return (int) v;
                case BOOLEANS: return v != 0L ? 1L : 0L;
                default: return v;
            }
        }
    }

    /** The tape, and the reading of a coast from it. */
    private static final class Tape {
        private static final int END = 0;
        private static final int WORD = 1;
        private static final int NUMBER = 2;
        private static final int SIGN = 3;
        private static final int ALIEN = 4;

        private static final int CELLS_WORD = 0;
        private static final int WALKER_WORD = 1;
        private static final int BOTTLE_WORD = 2;
        private static final int CURRENT_WORD = 3;
        private static final int WIND_WORD = 4;
        private static final int DAY_WORD = 5;

        int size = 0;
        int start = 0;
        private final int[] bytes = new int[MOST_BYTES];
        private int place = 0;
        private int token = END;
        private int value = NONE;
        private final int[] numbers = new int[4];

        boolean hasRoom() {
            return size < bytes.length;
        }

        int append(int letter) {
            if (size >= 0 && size < bytes.length) {
                bytes[size] = letter;
                size++;
            }
            return size;
        }

        /** How many statements came to the world; NONE: there is a fault, at the start of the token read last. */
        int readInto(World w) {
            place = 0;
            int statements = 0;
            for (int turn = 0; turn <= bytes.length; turn++) {
                if (!readStatement(w)) {
                    return NONE;
                }
                statements++;
                scan();
                if (token == END) {
                    return statements;
                }
                if (token != SIGN) {
                    return NONE;
                }
            }
            return NONE;
        }

        private boolean readStatement(World w) {
            scan();
            int word = token == WORD ? wordNumber() : NONE;
            if (word == NONE || word == WALKER_WORD && !w.hasRoomForWalker()
                || word == BOTTLE_WORD && !w.hasRoomForBottle()) {
                return false;
            }
            int several = numbersOf(word);
            for (int i = 0; i < several && i < numbers.length; i++) {
                scan();
                int least = word == CELLS_WORD ? w.cells : 0;
                if (token != NUMBER || value < least || value > mostOf(w, word, i)) {
                    return false;
                }
                numbers[i] = value;
            }
            perform(w, word);
            return true;
        }

        private void perform(World w, int word) {
            switch (word) {
                case CELLS_WORD: w.cells = numbers[0]; break;
                case WALKER_WORD: w.addWalker(numbers[0], numbers[1], numbers[2]); break;
                case BOTTLE_WORD: w.addBottle(numbers[0], numbers[1], numbers[2], numbers[3]); break;
                case CURRENT_WORD: w.setFlow(numbers[0], numbers[1]); break;
                case WIND_WORD: w.wind = numbers[0]; break;
                default: w.day = numbers[0]; break;
            }
        }

        private static int numbersOf(int word) {
            switch (word) {
                case WALKER_WORD: return 3;
                case BOTTLE_WORD: return 4;
                case CURRENT_WORD: return 2;
                default: return 1;
            }
        }

        private static int mostOf(World w, int word, int i) {
            switch (word) {
                case CELLS_WORD: return MOST_CELLS;
                case WALKER_WORD: return i == 0 ? w.cells - 1 : i == 1 ? MOST_PACE : 1;
                case BOTTLE_WORD:
                    return i == 0 ? KINDS - 1 : i == 1 ? MOST_A : i == 2 ? w.cells - 1 : w.walkerCount - 1;
                case CURRENT_WORD: return i == 0 ? w.cells - 1 : MOST_CURRENT;
                case WIND_WORD: return WINDS - 1;
                default: return LAST_DAY;
            }
        }

        private int wordNumber() {
            return spells("cells") ? CELLS_WORD
                : spells("walker") ? WALKER_WORD
                : spells("bottle") ? BOTTLE_WORD
                : spells("current") ? CURRENT_WORD
                : spells("wind") ? WIND_WORD
                : spells("day") ? DAY_WORD : NONE;
        }

        private boolean spells(String word) {
            if (place - start != word.length()) {
                return false;
            }
            for (int i = 0; i < word.length(); i++) {
                if (byteAt(start + i) != word.charAt(i)) {
                    return false;
                }
            }
            return true;
        }

        private int byteAt(int i) {
            return i >= 0 && i < size && i < bytes.length ? bytes[i] : NONE;
        }

        private static boolean isLetter(int b) {
            return b >= 'a' && b <= 'z';
        }

        private static boolean isDigit(int b) {
            return b >= '0' && b <= '9';
        }

        private void scan() {
            while (place < size && byteAt(place) == ' ') {
                place++;
            }
            start = place;
            int head = byteAt(place);
            if (head == NONE) {
                token = END;
            } else if (isLetter(head)) {
                token = WORD;
                while (place < size && isLetter(byteAt(place))) {
                    place++;
                }
            } else if (isDigit(head)) {
                token = NUMBER;
                scanNumber();
            } else {
                token = head == ';' ? SIGN : ALIEN;
                place++;
            }
        }

        /** A number of more than 3 digits may stand nowhere: its value is NONE. */
        private void scanNumber() {
            value = 0;
            while (place < size && isDigit(byteAt(place))) {
                value = place - start < 3 ? 10 * value + byteAt(place) - '0' : NONE;
                place++;
            }
        }
    }
}
