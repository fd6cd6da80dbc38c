/** The back of an avenue by night: landings, ladders, goers and windows, and what is asked of them. */
public final class IronStairs {
    public static final int NONE = -1, BAD = -2, NO = -3, FULL = -4;

    private static final int COLUMNS = 4;
    private static final int CELLS = 20;
    private static final int LADDER_CELLS = 16;
    private static final int FLOORS = 5;
    private static final int KINDS = 6;
    private static final int LADDERS = 6;
    private static final int GOERS = 6;
    private static final int WINDOWS = 4;
    private static final int LAST_MINUTE = 9999;
    private static final int AHEAD = 60;
    private static final int LONGEST_WAIT = 20;
    private static final int SHY_STAYS = 10;
    private static final int SHY_MINUTES = 30;
    private static final int COUNTS = 10;

    private final Back now;
    /** Nights and texts are tried on this one, so that the real one stays as it is. */
    private final Back spare;
    private final Back image0;
    private final Back image1;
    private boolean kept0;
    private boolean kept1;
    private final Reader reader;
    /** Calls refused as BAD, NO, FULL. */
    private final Row refused;
    private long above;
    private long below;
    // These rows hold for one call only. They stand here as a run has little room: no call makes an object.
    private final Row pathA;
    private final Row pathB;
    private final Row met;
    private final Row toHomes;
    /** By the homes that are taken (bits). */
    private final Row least;

    public IronStairs() {
        now = new Back();
        spare = new Back();
        image0 = new Back();
        image1 = new Back();
        reader = new Reader();
        refused = new Row(3);
        above = 0;
        below = 1;
        pathA = new Row(AHEAD + 1);
        pathB = new Row(AHEAD + 1);
        met = new Row(SHY_STAYS * SHY_STAYS);
        toHomes = new Row(GOERS * GOERS);
        least = new Row(1 << GOERS);
    }

    // ---- a back

    public int back() {
        int goers = now.goers.size();
        now.reset();
        return goers;
    }

    public int ladder(int c) {
        if (!within(c, 0, LADDER_CELLS - 1) || now.hasLadder(c)) return bad();
        if (now.ladders.isFull()) return full();
        now.past.empty();
        return now.addLadder(c);
    }

    public int goer(int kind, int home, int want) {
        if (!within(kind, 0, KINDS - 1) || !isCell(home) || !isCell(want)) return bad();
        if (now.goers.isFull()) return full();
        now.past.empty();
        return now.addGoer(kind, home, want);
    }

    public int window(int kind, int c) {
        if (!within(kind, 0, KINDS - 1) || !isCell(c)) return bad();
        if (now.windows.isFull()) return full();
        now.past.empty();
        return now.addWindow(kind, c);
    }

    public int type(int c) {
        if (!within(c, 0, 127)) return bad();
        if (reader.isFull()) return full();
        return reader.add(c);
    }

    public int clear() {
        return reader.empty();
    }

    public int read() {
        int items = reader.readInto(spare);
        if (items >= 0) now.take(spare);
        return items;
    }

    // ---- minutes

    public int minutes(int n) {
        if (!within(n, 1, AHEAD)) return bad();
        now.remember();
        return now.pass(Math.min(n, LAST_MINUTE - now.minute));
    }

    public int turns(int i) {
        if (!now.goers.has(i)) return bad();
        now.remember();
        return now.turnGoer(i);
    }

    public int draws(int k) {
        if (!now.ladders.has(k)) return bad();
        now.remember();
        return now.drawLadder(k);
    }

    public int undo() {
        if (now.past.size() == 0) return no();
        now.recall();
        return now.minute;
    }

    public int of(int i, int what) {
        if (!now.goers.has(i) || !within(what, 0, 6)) return bad();
        if (what == 5) return now.nextOf(i);
        if (what == 6) return now.loudOf(i);
        return now.goers.get(i, what);
    }

    public int about(int w, int what) {
        if (!now.windows.has(w) || !within(what, 0, 2)) return bad();
        return what == 2 ? now.heardAt(w) : now.windows.get(w, what);
    }

    public int rungs(int k, int what) {
        if (!now.ladders.has(k) || !within(what, 0, 1)) return bad();
        return now.ladders.get(k, what);
    }

    // ---- ways

    public int far(int a, int b) {
        if (!isCell(a) || !isCell(b)) return bad();
        return now.stepsBetween(a, b);
    }

    public int where(int i, int m) {
        if (!now.goers.has(i) || !within(m, 0, AHEAD)) return bad();
        now.trace(i, pathA);
        return pathA.get(m);
    }

    public int meet(int i, int j) {
        if (!areTwoGoers(i, j)) return bad();
        now.trace(i, pathA);
        now.trace(j, pathB);
        return firstMeeting(0, 0, AHEAD);
    }

    public int waits(int i, int j, int meet) {
        if (!areTwoGoers(i, j) || !within(meet, 0, 1)) return bad();
        now.trace(i, pathA);
        now.trace(j, pathB);
        for (int stay = 0; stay <= LONGEST_WAIT; stay++) {
            boolean together = firstMeeting(stay, 0, AHEAD) != NONE;
            if (together == (meet == 1)) return stay;
        }
        return NONE;
    }

    public int down(int what) {
        if (!within(what, 0, 1)) return bad();
        int most = 0;
        int without = 0;
        for (int i = 0; i < now.goers.size(); i++) {
            int steps = now.stepsToGround(now.goers.get(i, Back.AT));
            if (steps == NONE) without |= 1 << i;
            most = Math.max(most, steps);
        }
        return what == 0 ? most : without;
    }

    public int cut(int what) {
        if (!within(what, 0, 1)) return bad();
        int which = NONE;
        int most = NONE;
        for (int k = 0; k < now.ladders.size(); k++) {
            if (now.ladders.get(k, Back.DOWN) == 0) continue;
            int without = goersCutOff(k);
            if (without > most) {
                which = k;
                most = without;
            }
        }
        return what == 0 ? which : most;
    }

    public int doors(int i) {
        if (i != NONE && !now.goers.has(i)) return badAs(-10);
        fillToHomes();
        fillLeast();
        if (least.get(0) == NONE) return -6;
        return i == NONE ? least.get(0) : homeChosenBy(i);
    }

    // ---- who it was

    public int sound(int w, int m, int x) {
        if (!now.windows.has(w) || !within(m, 0, 30) || !within(x, 1, 20)) return bad();
        if (now.sounds.isFull()) return full();
        now.sounds.add(w, m, x, 0);
        return now.sounds.size();
    }

    public int who() {
        int bits = 0;
        for (int i = 0; i < now.goers.size(); i++) {
            now.trace(i, pathA);
            if (fitsSounds(i)) bits |= 1 << i;
        }
        return bits;
    }

    public int note(int i, int f, int m, int x) {
        if (!now.goers.has(i) || !within(f, 0, FLOORS - 1)) return bad();
        if (!within(m, 0, 99) || !within(x, 0, 20)) return bad();
        if (now.notes.isFull()) return full();
        now.notes.add(i, f, m, x);
        return now.notes.size();
    }

    public int mark(int w, int x, int d, int heard) {
        if (!now.windows.has(w) || !within(x, 0, 20)) return bad();
        if (!within(d, 0, 7) || !within(heard, 0, 1)) return bad();
        if (now.marks.isFull()) return full();
        now.marks.add(w, x, d, heard);
        return now.marks.size();
    }

    public int forget(int what) {
        if (what == 0) return now.sounds.empty();
        if (what == 1) return now.notes.empty();
        if (what == 2) return now.marks.empty();
        return bad();
    }

    public int is(int i) {
        if (!now.goers.has(i)) return bad();
        return goerKinds(i);
    }

    public int look(int i) {
        if (!now.goers.has(i)) return bad();
        int bits = goerKinds(i);
        if (bits == 0) return NONE;
        int best = NONE;
        int fewest = KINDS + 1;
        for (int f = 0; f < FLOORS; f++) {
            for (int m = 0; m < 2; m++) {
                int alike = mostAlike(bits, f, m);
                if (alike < fewest) {
                    fewest = alike;
                    best = 10 * f + m;
                }
            }
        }
        return best;
    }

    public int kinds(int w) {
        if (!now.windows.has(w)) return bad();
        return windowKinds(w);
    }

    public int ask(int w) {
        if (!now.windows.has(w)) return bad();
        int bits = windowKinds(w);
        if (bits == 0) return NONE;
        int best = NONE;
        int fewest = KINDS + 1;
        for (int x = 0; x < 10; x++) {
            for (int d = 0; d < 8; d++) {
                int greater = greaterPart(bits, x, d);
                if (greater < fewest) {
                    fewest = greater;
                    best = 10 * x + d;
                }
            }
        }
        return best;
    }

    public int shy(int a, int b, int k) {
        if (!areTwoGoers(a, b) || k < NONE) return badAs(-10);
        fillMet(a, b);
        int resting = 0;
        for (int pair = 0; pair < SHY_STAYS * SHY_STAYS; pair++) {
            if (!rests(pair / SHY_STAYS, pair % SHY_STAYS)) continue;
            if (resting == k) return pair;
            resting++;
        }
        return k == NONE ? resting : -5;
    }

    public int odds(int a, int b, int c) {
        if (!isCell(a) || !isCell(b) || !within(c, 0, 10)) return bad();
        long some = 1;
        long all = 1;
        // A floor is walked from end to end: a way needs any one ladder from each floor to the next.
        for (int f = Math.min(floorOf(a), floorOf(b)); f < Math.max(floorOf(a), floorOf(b)); f++) {
            int ladders = now.laddersDownOn(f, NONE);
            some *= power(10, ladders) - power(c, ladders);
            all *= power(10, ladders);
        }
        long divisor = Math.max(1, commonDivisor(all, some));
        above = some / divisor;
        below = all / divisor;
        return 1;
    }

    public int nights(int seed, int n) {
        if (!within(seed, 0, 999999) || !within(n, 0, AHEAD)) return bad();
        spare.take(now);
        long x = seed;
        int heard = 0;
        for (int m = 0; m < n; m++) {
            x = (x * 1103515245L + 12345L) % 2147483648L;
            int turning = (int) (x / 65536 % 6);
            if (spare.goers.has(turning)) spare.turnGoer(turning);
            heard += spare.heardInAll();
            spare.pass(1);
        }
        return heard;
    }

    // ---- what there is

    public long part(int what) {
        if (!within(what, 0, 1)) return bad();
        return what == 0 ? above : below;
    }

    public int image(int i) {
        if (!within(i, 0, 1)) return bad();
        if (i == 0) {
            image0.take(now);
            kept0 = true;
        } else {
            image1.take(now);
            kept1 = true;
        }
        return 1;
    }

    public int from(int i) {
        if (!within(i, 0, 1)) return bad();
        boolean kept = i == 0 ? kept0 : kept1;
        if (!kept) return no();
        now.take(i == 0 ? image0 : image1);
        return 1;
    }

    public int status(int what) {
        if (!within(what, 0, 2)) return badAs(-1);
        return refused.get(what);
    }

    public int count(int what) {
        if (!within(what, 0, COUNTS - 1)) return bad();
        return howMany(what);
    }

    public long digest() {
        long h = 1601;
        for (int what = 0; what < COUNTS; what++) h = 31 * h + howMany(what);
        h = now.ladders.mixInto(h);
        h = now.goers.mixInto(h);
        h = now.windows.mixInto(h);
        h = now.sounds.mixInto(h);
        h = now.notes.mixInto(h);
        h = now.marks.mixInto(h);
        h = 31 * h + above;
        return 31 * h + below;
    }

    // ---- what is refused

    private int bad() {
        return badAs(BAD);
    }

    private int badAs(int answer) {
        refused.set(0, refused.get(0) + 1);
        return answer;
    }

    private int no() {
        refused.set(1, refused.get(1) + 1);
        return NO;
    }

    private int full() {
        refused.set(2, refused.get(2) + 1);
        return FULL;
    }

    private static boolean within(int n, int low, int high) {
        return n >= low && n <= high;
    }

    private static boolean isCell(int c) {
        return within(c, 0, CELLS - 1);
    }

    private boolean areTwoGoers(int i, int j) {
        return i != j && now.goers.has(i) && now.goers.has(j);
    }

    // ---- helpers of the questions

    private int howMany(int what) {
        switch (what) {
            case 0: return now.goers.size();
            case 1: return now.ladders.size();
            case 2: return now.windows.size();
            case 3: return now.minute;
            case 4: return now.arrived();
            case 5: return now.sounds.size();
            case 6: return now.notes.size();
            case 7: return now.marks.size();
            case 8: return now.past.size();
            default: return reader.length();
        }
    }

    /** The paths are of goers who go at once: who stays at first is so much behind on his. */
    private int firstMeeting(int stayA, int stayB, int last) {
        for (int t = 0; t <= last; t++) {
            int a = pathA.get(Math.max(0, t - stayA));
            int b = pathB.get(Math.max(0, t - stayB));
            if (a == b) return t;
        }
        return NONE;
    }

    private int goersCutOff(int ladder) {
        int without = 0;
        for (int i = 0; i < now.goers.size(); i++) {
            if (!climbsDown(floorOf(now.goers.get(i, Back.AT)), ladder)) without++;
        }
        return without;
    }

    private boolean climbsDown(int floor, int without) {
        for (int f = 0; f < floor; f++) {
            if (now.laddersDownOn(f, without) == 0) return false;
        }
        return true;
    }

    private void fillToHomes() {
        for (int i = 0; i < now.goers.size(); i++) {
            for (int j = 0; j < now.goers.size(); j++) {
                int steps = now.stepsBetween(now.goers.get(i, Back.AT), now.goers.get(j, Back.HOME));
                toHomes.set(GOERS * i + j, steps);
            }
        }
    }

    /** Downwards, as what is left behind more homes taken must be known first: more bits are a greater number. */
    private void fillLeast() {
        int all = (1 << now.goers.size()) - 1;
        least.set(all, 0);
        for (int taken = all - 1; taken >= 0; taken--) least.set(taken, leastBehind(taken));
    }

    /** Goers choose as they come, so as many homes are taken as have chosen. */
    private int leastBehind(int taken) {
        int chooser = Integer.bitCount(taken);
        int best = NONE;
        for (int j = 0; j < now.goers.size(); j++) {
            if ((taken >> j & 1) == 1) continue;
            int sum = wayThrough(chooser, j, taken);
            if (sum != NONE && (best == NONE || sum < best)) best = sum;
        }
        return best;
    }

    private int wayThrough(int chooser, int j, int taken) {
        int steps = toHomes.get(GOERS * chooser + j);
        int rest = least.get(taken | 1 << j);
        return steps == NONE || rest == NONE ? NONE : steps + rest;
    }

    private int homeChosenBy(int i) {
        int taken = 0;
        int chosen = NONE;
        for (int chooser = 0; chooser <= i && chooser < GOERS; chooser++) {
            chosen = firstHome(chooser, taken);
            if (chosen == NONE) return NONE;
            taken |= 1 << chosen;
        }
        return chosen;
    }

    private int firstHome(int chooser, int taken) {
        for (int j = 0; j < now.goers.size(); j++) {
            if ((taken >> j & 1) == 0 && wayThrough(chooser, j, taken) == least.get(taken)) return j;
        }
        return NONE;
    }

    /** Path A is the goer's own. */
    private boolean fitsSounds(int i) {
        for (int s = 0; s < now.sounds.size(); s++) {
            int m = now.sounds.get(s, 1);
            int at = pathA.get(m);
            if (at == pathA.get(m + 1)) return false;
            int x = loudness(now.goers.get(i, Back.KIND), floorOf(at), now.minute + m);
            if (x != now.sounds.get(s, 2) || !now.hears(now.sounds.get(s, 0), x, at)) return false;
        }
        return true;
    }

    private int goerKinds(int i) {
        int bits = 0;
        for (int kind = 0; kind < KINDS; kind++) {
            if (fitsNotes(kind, i)) bits |= 1 << kind;
        }
        return bits;
    }

    private boolean fitsNotes(int kind, int i) {
        for (int n = 0; n < now.notes.size(); n++) {
            if (now.notes.get(n, 0) != i) continue;
            if (loudness(kind, now.notes.get(n, 1), now.notes.get(n, 2)) != now.notes.get(n, 3)) return false;
        }
        return true;
    }

    private static int mostAlike(int bits, int f, int m) {
        int most = 0;
        for (int kind = 0; kind < KINDS; kind++) {
            if ((bits >> kind & 1) == 0) continue;
            int alike = 0;
            for (int other = 0; other < KINDS; other++) {
                if ((bits >> other & 1) == 1 && loudness(other, f, m) == loudness(kind, f, m)) alike++;
            }
            most = Math.max(most, alike);
        }
        return most;
    }

    private int windowKinds(int w) {
        int bits = 0;
        for (int kind = 0; kind < KINDS; kind++) {
            if (fitsMarks(kind, w)) bits |= 1 << kind;
        }
        return bits;
    }

    private boolean fitsMarks(int kind, int w) {
        for (int n = 0; n < now.marks.size(); n++) {
            if (now.marks.get(n, 0) != w) continue;
            boolean heard = hearing(kind, now.marks.get(n, 1), now.marks.get(n, 2)) >= 1;
            if (heard != (now.marks.get(n, 3) == 1)) return false;
        }
        return true;
    }

    private static int greaterPart(int bits, int x, int d) {
        int hearers = 0;
        for (int kind = 0; kind < KINDS; kind++) {
            if ((bits >> kind & 1) == 1 && hearing(kind, x, d) >= 1) hearers++;
        }
        return Math.max(hearers, Integer.bitCount(bits) - hearers);
    }

    private void fillMet(int a, int b) {
        now.trace(a, pathA);
        now.trace(b, pathB);
        for (int i = 0; i < SHY_STAYS; i++) {
            for (int j = 0; j < SHY_STAYS; j++) {
                met.set(SHY_STAYS * i + j, firstMeeting(i, j, SHY_MINUTES) == NONE ? 0 : 1);
            }
        }
    }

    private int gainOfA(int i, int j) {
        return 5 * met.get(SHY_STAYS * i + j) - i / 3;
    }

    private int gainOfB(int i, int j) {
        return 5 - 5 * met.get(SHY_STAYS * i + j) - j / 3;
    }

    private boolean rests(int i, int j) {
        int a = gainOfA(i, j);
        int b = gainOfB(i, j);
        for (int other = 0; other < SHY_STAYS; other++) {
            if (gainOfA(other, j) > a || gainOfB(i, other) > b) return false;
        }
        return true;
    }

    private static long power(long base, int exponent) {
        long product = 1;
        for (int i = 0; i < exponent; i++) product *= base;
        return product;
    }

    /** Of numbers up to a million, for which some thirty rounds are plenty. */
    private static long commonDivisor(long a, long b) {
        long one = a;
        long other = b;
        for (int i = 0; i < 100 && other != 0; i++) {
            long rest = one % other;
            one = other;
            other = rest;
        }
        return one;
    }

    // ---- what kinds do

    private static int floorOf(int c) {
        return c / COLUMNS;
    }

    private static int apart(int a, int b) {
        return Math.abs(a / COLUMNS - b / COLUMNS) + Math.abs(a % COLUMNS - b % COLUMNS);
    }

    private static int loudness(int kind, int f, int m) {
        boolean odd = m % 2 != 0;
        switch (kind) {
            case 0: return slipper(f);
            case 1: return boot(f);
            case 2: return odd ? slipper(f) : 0;
            case 3: return f == 0 ? 2 * boot(f) : boot(f);
            case 4: return slipper(f) / 2;
            default: return odd ? boot(f) - 1 : boot(f);
        }
    }

    private static int slipper(int f) {
        return 1 + f / 2;
    }

    private static int boot(int f) {
        return slipper(f) + 2;
    }

    private static int hearing(int kind, int x, int d) {
        switch (kind) {
            case 0: return x - d;
            case 1: return light(x, d);
            case 2: return deaf(x, d);
            case 3: return d <= 1 ? 1 : light(x, d);
            case 4: return light(x, d) + x;
            default: return Math.min(deaf(x, d), 2);
        }
    }

    private static int light(int x, int d) {
        return x >= 1 ? x - d + 2 : x - d;
    }

    private static int deaf(int x, int d) {
        return x > d ? (x - d) / 2 : x - d;
    }

    /** All arrays are in here, so that every index is looked at before it is used. */
    private static final class Row {
        private final int[] cells;

        Row(int length) {
            cells = new int[Math.max(0, length)];
        }

        int get(int i) {
            return i >= 0 && i < cells.length ? cells[i] : 0;
        }

        void set(int i, int value) {
            if (i >= 0 && i < cells.length) cells[i] = value;
        }

        void take(Row other) {
            System.arraycopy(other.cells, 0, cells, 0, Math.min(cells.length, other.cells.length));
        }
    }

    /** Rows of one width, as they come, up to a limit. */
    private static final class Rows {
        private final int limit;
        private final int width;
        private final Row cells;
        private int size;

        Rows(int limit, int width) {
            this.limit = limit;
            this.width = width;
            cells = new Row(limit * width);
        }

        int size() {
            return size;
        }

        boolean isFull() {
            return size >= limit;
        }

        boolean has(int r) {
            return r >= 0 && r < size;
        }

        int get(int r, int column) {
            return has(r) && column >= 0 && column < width ? cells.get(r * width + column) : 0;
        }

        void set(int r, int column, int value) {
            if (has(r) && column >= 0 && column < width) cells.set(r * width + column, value);
        }

        /** Numbers for which there is no column fall away; columns for which there is no number are 0. */
        int add(int a, int b, int c, int d) {
            if (isFull()) return NONE;
            int r = size;
            size++;
            for (int column = 4; column < width; column++) set(r, column, 0);
            set(r, 0, a);
            set(r, 1, b);
            set(r, 2, c);
            set(r, 3, d);
            return r;
        }

        void dropFirst() {
            for (int i = width; i < size * width; i++) cells.set(i - width, cells.get(i));
            dropLast();
        }

        void dropLast() {
            size = Math.max(0, size - 1);
        }

        int empty() {
            int had = size;
            size = 0;
            return had;
        }

        void take(Rows other) {
            cells.take(other.cells);
            size = other.size;
        }

        long mixInto(long h) {
            long mixed = h;
            for (int i = 0; i < size * width; i++) mixed = 31 * mixed + cells.get(i);
            return mixed;
        }
    }

    /** The shortest ways between cells, by the ladders that are down. */
    private static final class Ways {
        /** For each goal a run of all cells. */
        private final Row steps = new Row(CELLS * CELLS);
        private final Row queue = new Row(CELLS);
        /** Goals (bits) whose steps are known for the ladders as they are. */
        private int known;
        /** Cells (bits) from which a ladder that is down goes up. */
        private int open;

        void lay(int openCells) {
            if (open == openCells) return;
            open = openCells;
            known = 0;
        }

        int between(int from, int goal) {
            if ((known >> goal & 1) == 0) spread(goal);
            return steps.get(goal * CELLS + from);
        }

        int next(int from, int goal) {
            if ((known >> goal & 1) == 0) spread(goal);
            int far = steps.get(goal * CELLS + from);
            if (far <= 0) return from;
            for (int side = 0; side < 4; side++) {
                int c = beside(from, side);
                if (c != NONE && steps.get(goal * CELLS + c) == far - 1) return c;
            }
            return from;
        }

        private void spread(int goal) {
            int row = goal * CELLS;
            for (int c = 0; c < CELLS; c++) steps.set(row + c, NONE);
            steps.set(row + goal, 0);
            queue.set(0, goal);
            int found = 1;
            for (int i = 0; i < found && i < CELLS; i++) {
                int from = queue.get(i);
                for (int side = 0; side < 4; side++) {
                    int c = beside(from, side);
                    if (c == NONE || steps.get(row + c) != NONE) continue;
                    steps.set(row + c, steps.get(row + from) + 1);
                    queue.set(found, c);
                    found++;
                }
            }
            known |= 1 << goal;
        }

        /** Sides are in the order in which their cells rise, as the least cell goes first. */
        private int beside(int c, int side) {
            switch (side) {
                case 0: return c >= COLUMNS && (open >> (c - COLUMNS) & 1) == 1 ? c - COLUMNS : NONE;
                case 1: return c % COLUMNS > 0 ? c - 1 : NONE;
                case 2: return c % COLUMNS < COLUMNS - 1 ? c + 1 : NONE;
                default: return c < LADDER_CELLS && (open >> c & 1) == 1 ? c + COLUMNS : NONE;
            }
        }
    }

    /** All that an image keeps: who and what is there, the minute, what was told, what may be undone. */
    private static final class Back {
        static final int CELL = 0, DOWN = 1;
        static final int KIND = 0, HOME = 1, WANT = 2, AT = 3, TURNED = 4;
        static final int WINDOW_CELL = 1;

        final Rows ladders = new Rows(LADDERS, 2);
        final Rows goers = new Rows(GOERS, 5);
        final Rows windows = new Rows(WINDOWS, 2);
        final Rows sounds = new Rows(5, 3);
        final Rows notes = new Rows(6, 4);
        final Rows marks = new Rows(6, 4);
        /** The minute; where each goer is; whether each is turned; whether each ladder is down. */
        final Rows past = new Rows(8, 1 + 2 * GOERS + LADDERS);
        private final Ways ways = new Ways();
        int minute;

        void reset() {
            ladders.empty();
            goers.empty();
            windows.empty();
            sounds.empty();
            notes.empty();
            marks.empty();
            past.empty();
            minute = 0;
        }

        void take(Back other) {
            ladders.take(other.ladders);
            goers.take(other.goers);
            windows.take(other.windows);
            sounds.take(other.sounds);
            notes.take(other.notes);
            marks.take(other.marks);
            past.take(other.past);
            minute = other.minute;
        }

        boolean hasLadder(int c) {
            for (int k = 0; k < ladders.size(); k++) {
                if (ladders.get(k, CELL) == c) return true;
            }
            return false;
        }

        int addLadder(int c) {
            return ladders.add(c, 1, 0, 0);
        }

        int addGoer(int kind, int home, int want) {
            return goers.add(kind, home, want, home);
        }

        int addWindow(int kind, int c) {
            return windows.add(kind, c, 0, 0);
        }

        int turnGoer(int i) {
            goers.set(i, TURNED, 1 - goers.get(i, TURNED));
            return goers.get(i, TURNED);
        }

        int drawLadder(int k) {
            ladders.set(k, DOWN, 1 - ladders.get(k, DOWN));
            return ladders.get(k, DOWN);
        }

        void remember() {
            if (past.isFull()) past.dropFirst();
            int r = past.add(minute, 0, 0, 0);
            for (int i = 0; i < goers.size(); i++) {
                past.set(r, 1 + i, goers.get(i, AT));
                past.set(r, 1 + GOERS + i, goers.get(i, TURNED));
            }
            for (int k = 0; k < ladders.size(); k++) past.set(r, 1 + 2 * GOERS + k, ladders.get(k, DOWN));
        }

        void recall() {
            int r = past.size() - 1;
            minute = past.get(r, 0);
            for (int i = 0; i < goers.size(); i++) {
                goers.set(i, AT, past.get(r, 1 + i));
                goers.set(i, TURNED, past.get(r, 1 + GOERS + i));
            }
            for (int k = 0; k < ladders.size(); k++) ladders.set(k, DOWN, past.get(r, 1 + 2 * GOERS + k));
            past.dropLast();
        }

        int pass(int n) {
            layWays();
            int made = 0;
            for (int m = 0; m < n; m++) {
                for (int i = 0; i < goers.size(); i++) {
                    int at = goers.get(i, AT);
                    int next = ways.next(at, goalOf(i));
                    if (next == at) continue;
                    goers.set(i, AT, next);
                    made++;
                }
                minute++;
            }
            return made;
        }

        void trace(int i, Row path) {
            layWays();
            int at = goers.get(i, AT);
            int goal = goalOf(i);
            for (int m = 0; m <= AHEAD; m++) {
                path.set(m, at);
                if (at != goal) at = ways.next(at, goal);
            }
        }

        int arrived() {
            int there = 0;
            for (int i = 0; i < goers.size(); i++) {
                if (goers.get(i, AT) == goalOf(i)) there++;
            }
            return there;
        }

        int nextOf(int i) {
            layWays();
            return ways.next(goers.get(i, AT), goalOf(i));
        }

        int loudOf(int i) {
            layWays();
            return Math.max(0, loudStep(i));
        }

        int heardAt(int w) {
            layWays();
            int bits = 0;
            for (int i = 0; i < goers.size(); i++) {
                int x = loudStep(i);
                if (x != NONE && hears(w, x, goers.get(i, AT))) bits |= 1 << i;
            }
            return bits;
        }

        int heardInAll() {
            layWays();
            int heard = 0;
            for (int i = 0; i < goers.size(); i++) {
                int x = loudStep(i);
                if (x == NONE) continue;
                for (int w = 0; w < windows.size(); w++) {
                    if (hears(w, x, goers.get(i, AT))) heard++;
                }
            }
            return heard;
        }

        /** None if he stays: a lamp may hear a step that is 0 loud, but not one that is not made. */
        private int loudStep(int i) {
            int at = goers.get(i, AT);
            return ways.next(at, goalOf(i)) == at ? NONE : loudness(goers.get(i, KIND), floorOf(at), minute);
        }

        boolean hears(int w, int x, int at) {
            return hearing(windows.get(w, KIND), x, apart(windows.get(w, WINDOW_CELL), at)) >= 1;
        }

        int stepsBetween(int a, int b) {
            layWays();
            return ways.between(a, b);
        }

        int stepsToGround(int c) {
            layWays();
            int best = NONE;
            for (int ground = 0; ground < COLUMNS; ground++) {
                int steps = ways.between(c, ground);
                if (steps != NONE && (best == NONE || steps < best)) best = steps;
            }
            return best;
        }

        int laddersDownOn(int floor, int without) {
            int found = 0;
            for (int k = 0; k < ladders.size(); k++) {
                if (k != without && ladders.get(k, DOWN) == 1 && floorOf(ladders.get(k, CELL)) == floor) found++;
            }
            return found;
        }

        private int goalOf(int i) {
            return goers.get(i, TURNED) == 1 ? goers.get(i, HOME) : goers.get(i, WANT);
        }

        /** Whoever asks for ways tells the ladders first, as they come, go and are drawn in many places. */
        private void layWays() {
            int open = 0;
            for (int k = 0; k < ladders.size(); k++) open |= ladders.get(k, DOWN) << ladders.get(k, CELL);
            ways.lay(open);
        }
    }

    /** The text, and its reading into a back. */
    private static final class Reader {
        private static final int LIMIT = 150;
        private static final int END = 0, WORD = 1, NUMBER = 2, STOP = 3, WRONG = 4;

        private final Row bytes = new Row(LIMIT);
        private int length;
        /** The first place behind the token; the token itself begins at start. */
        private int place;
        private int start;
        private int token;
        private int value;

        int length() {
            return length;
        }

        boolean isFull() {
            return length >= LIMIT;
        }

        int add(int c) {
            bytes.set(length, c);
            length++;
            return length;
        }

        int empty() {
            int had = length;
            length = 0;
            return had;
        }

        /** Whatever takes a token stops at the first one that can not stand there, so a fault is where it starts. */
        int readInto(Back draft) {
            draft.reset();
            place = 0;
            nextToken();
            if (!isWord("back") || !nextIsStop()) return -10 - start;
            int items = 1;
            for (int i = 0; i < LIMIT; i++) {
                nextToken();
                if (token == END) return items;
                if (!readItem(draft) || !nextIsStop()) return -10 - start;
                items++;
            }
            return items;
        }

        private boolean readItem(Back draft) {
            if (isWord("ladder")) return readLadder(draft);
            if (isWord("goer")) return readGoer(draft);
            if (isWord("window")) return readWindow(draft);
            if (isWord("turn")) return readTurn(draft);
            if (isWord("draw")) return readDraw(draft);
            return isWord("minutes") && readMinutes(draft);
        }

        private boolean readLadder(Back draft) {
            if (draft.ladders.isFull() || !nextIsNumber(0, LADDER_CELLS - 1)) return false;
            if (draft.hasLadder(value)) return false;
            draft.addLadder(value);
            return true;
        }

        private boolean readGoer(Back draft) {
            if (draft.goers.isFull() || !nextIsNumber(0, KINDS - 1)) return false;
            int kind = value;
            if (!nextIsNumber(0, CELLS - 1)) return false;
            int home = value;
            if (!nextIsNumber(0, CELLS - 1)) return false;
            draft.addGoer(kind, home, value);
            return true;
        }

        private boolean readWindow(Back draft) {
            if (draft.windows.isFull() || !nextIsNumber(0, KINDS - 1)) return false;
            int kind = value;
            if (!nextIsNumber(0, CELLS - 1)) return false;
            draft.addWindow(kind, value);
            return true;
        }

        private boolean readTurn(Back draft) {
            if (!nextIsNumber(0, draft.goers.size() - 1)) return false;
            draft.turnGoer(value);
            return true;
        }

        private boolean readDraw(Back draft) {
            if (!nextIsNumber(0, draft.ladders.size() - 1)) return false;
            draft.drawLadder(value);
            return true;
        }

        private boolean readMinutes(Back draft) {
            if (!nextIsNumber(1, 99)) return false;
            draft.pass(value);
            return true;
        }

        private boolean nextIsStop() {
            nextToken();
            return token == STOP;
        }

        private boolean nextIsNumber(int low, int high) {
            nextToken();
            if (token != NUMBER || place - start > 2) return false;
            value = bytes.get(place - 1) - '0';
            if (place - start == 2) value += 10 * (bytes.get(start) - '0');
            return value >= low && value <= high;
        }

        private boolean isWord(String word) {
            if (token != WORD || place - start != word.length()) return false;
            for (int i = 0; i < word.length(); i++) {
                if (bytes.get(start + i) != word.charAt(i)) return false;
            }
            return true;
        }

        private void nextToken() {
            while (place < length && bytes.get(place) == ' ') place++;
            start = place;
            token = END;
            if (place >= length) return;
            token = tokenBegunBy(bytes.get(place));
            place++;
            if (token != WORD && token != NUMBER) return;
            while (place < length && tokenBegunBy(bytes.get(place)) == token) place++;
        }

        private static int tokenBegunBy(int b) {
            if (b >= 'a' && b <= 'z') return WORD;
            if (b >= '0' && b <= '9') return NUMBER;
            return b == ';' ? STOP : WRONG;
        }
    }
}
