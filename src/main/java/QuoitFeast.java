/**
 * Girls in the clay, throwers with their arms, the rings that lie, and what is asked of them.
 * Every number that comes from outside is looked at before it is used: no call ever throws.
 */
public final class QuoitFeast {
    public static final int UNKNOWN = -1, OUTSIDE = -2, STATE = -3, FULL = -4, NONE = -9;
    public static final long LOST = Long.MIN_VALUE;

    private static final int NULL = 1, CAST = 2, INDEX = 3, SIZE = 4;
    private static final int RIGHT = 0, LEFT = 1, STRANGER = 2;
    private static final int MOST_GIRLS = 4, MOST_THROWERS = 5, MOST_RINGS = 8, MOST_READINGS = 8;
    private static final int SHEETS = 4, MOST_CELLS = 60, MOST_PAIRS = 20;
    private static final int MOST_FROST = 3, MOST_LEAN = 9, LEAST_YARDS = 1, MOST_YARDS = 9;
    private static final int LEAST_ARM = 1, MOST_ARM = 9, MOST_READ = 20;
    private static final int FROST_ACT = 10, CLEAR_ACT = 11;
    private static final int ASKS_FIRST_WRONG = 1, ASKS_HOLDER = 10;
    private static final int SLIPS = 3;

    private final Clay clay = new Clay();
    private final Right[] throwers = new Right[MOST_THROWERS];
    private final Readings readings = new Readings();
    private final Sheet[] sheets = new Sheet[SHEETS];
    private final Trace steps = new Trace();
    private final Text text = new Text();
    private final Feast told = new Feast();
    private final Pairing pairing = new Pairing();
    private int throwerCount;
    private int lastFault;

    public QuoitFeast() {
        for (int k = 0; k < sheets.length; k++) {
            sheets[k] = new Sheet();
        }
    }

    // ---- 1 the dale

    public int dale(int sheet, int lane, int i, int n) {
        lastFault = 0;
        Sheet row = sheetOf(sheet);
        if (row == null) {
            return UNKNOWN;
        }
        if (!isLane(lane)) {
            return OUTSIDE;
        }
        int wrong = row.faultAs(lane);
        if (wrong == 0 && n < 0) {
            wrong = SIZE;
        }
        if (wrong == 0 && !row.reaches(i, n)) {
            wrong = INDEX;
        }
        if (wrong != 0) {
            return comeTo(wrong);
        }
        int firstFault = text.firstFault(row, i, n);
        if (firstFault != NONE) {
            return -100 - firstFault;
        }
        makeAnew();
        return throwerCount;
    }

    public int ofGirl(int g, int what) {
        Girl her = clay.girlAt(g);
        if (her == null) {
            return UNKNOWN;
        }
        switch (what) {
            case 0: return her.yards;
            case 1: return her.leaning;
            case 2: return her.rings;
            case 3: return her.holder();
            case 4: return her.holdersNearness();
            case 5: return her.ringers();
            default: return OUTSIDE;
        }
    }

    public int ofThrower(int t, int what) {
        Right who = throwerOf(t);
        if (who == null) {
            return UNKNOWN;
        }
        switch (what) {
            case 0: return who.kind();
            case 1: return who.arm;
            case 2: return who.reach();
            case 3: return clay.heldBy(t);
            case 4: return clay.ringsOf(t);
            default: return OUTSIDE;
        }
    }

    public int freeze(int v) {
        if (!isWithin(v, 0, MOST_FROST)) {
            return OUTSIDE;
        }
        if (throwerCount == 0) {
            return STATE;
        }
        int was = clay.frost;
        clay.frost = v;
        return was;
    }

    public int lean(int g, int v) {
        Girl her = clay.girlAt(g);
        if (her == null) {
            return UNKNOWN;
        }
        if (!isWithin(v, 0, MOST_LEAN)) {
            return OUTSIDE;
        }
        int was = her.leaning;
        her.leaning = v;
        return was;
    }

    public int place(int g, int v) {
        Girl her = clay.girlAt(g);
        if (her == null) {
            return UNKNOWN;
        }
        if (!isWithin(v, LEAST_YARDS, MOST_YARDS)) {
            return OUTSIDE;
        }
        int was = her.yards;
        her.yards = v;
        return was;
    }

    public int train(int t, int v) {
        Right who = throwerOf(t);
        if (who == null) {
            return UNKNOWN;
        }
        if (!isWithin(v, LEAST_ARM, MOST_ARM)) {
            return OUTSIDE;
        }
        int was = who.arm;
        who.arm = v;
        return was;
    }

    // ---- 2 rings

    public int measure(int t, int g) {
        Right who = throwerOf(t);
        Girl her = clay.girlAt(g);
        if (who == null || her == null) {
            return UNKNOWN;
        }
        return her.nearness(who.reach(), clay.frost);
    }

    public int hurl(int t, int g) {
        Right who = throwerOf(t);
        Girl her = clay.girlAt(g);
        if (who == null || her == null) {
            return UNKNOWN;
        }
        if (her.isFull()) {
            return FULL;
        }
        int near = her.nearness(who.reach(), clay.frost);
        her.lay(t, near);
        return near;
    }

    public int lift(int g) {
        Girl her = clay.girlAt(g);
        if (her == null) {
            return UNKNOWN;
        }
        if (her.rings == 0) {
            return STATE;
        }
        return her.takeLast();
    }

    public int clear(int g) {
        Girl her = clay.girlAt(g);
        if (her == null) {
            return UNKNOWN;
        }
        int lay = her.rings;
        her.rings = 0;
        return lay;
    }

    public int feast(int sheet, int lane, int i, int n, int what) {
        lastFault = 0;
        Sheet row = sheetOf(sheet);
        if (row == null) {
            return UNKNOWN;
        }
        if (!isLane(lane) || !isWithin(n, 0, MOST_PAIRS) || !isAskedOfFeasts(what)) {
            return OUTSIDE;
        }
        int wrong = row.faultAs(lane);
        if (wrong == 0 && !row.reaches(i, 2 * n)) {
            wrong = INDEX;
        }
        if (wrong != 0) {
            return comeTo(wrong);
        }
        if (throwerCount == 0) {
            return STATE;
        }
        int refusal = refusalOfPairs(row, i, n);
        if (refusal != 0) {
            return refusal;
        }
        tellFeast(row, i, n);
        return told.answer(what);
    }

    // ---- 3 who has whom

    public int wins(int t) {
        Right who = throwerOf(t);
        return who == null ? UNKNOWN : winsOf(who);
    }

    public int match(int k) {
        if (!isWithin(k, -2, MOST_THROWERS - 1)) {
            return OUTSIDE;
        }
        if (throwerCount == 0) {
            return STATE;
        }
        preparePairing();
        pairing.matchUp();
        if (k == -2) {
            return pairing.pairs();
        }
        return k == -1 ? pairing.nearnessTogether() : pairing.girlOf(k);
    }

    public int weds(int t) {
        if (throwerOf(t) == null) {
            return UNKNOWN;
        }
        preparePairing();
        pairing.wedAll();
        return pairing.girlOf(t);
    }

    public int even(int t, int u, int g) {
        Right one = throwerOf(t);
        Right two = throwerOf(u);
        Girl her = clay.girlAt(g);
        if (one == null || two == null || t == u || her == null) {
            return UNKNOWN;
        }
        int found = NONE;
        for (int yards = LEAST_YARDS; yards <= MOST_YARDS; yards++) {
            int first = nearnessBy(one.reach(), yards, her.leaning, clay.frost);
            int second = nearnessBy(two.reach(), yards, her.leaning, clay.frost);
            boolean nearer = found == NONE || apart(yards, her.yards) < apart(found, her.yards);
            if (first == second && nearer) {
                found = yards;
            }
        }
        return found;
    }

    // ---- 4 how near they came

    public int reading(int t, int g, int v) {
        if (throwerOf(t) == null || clay.girlAt(g) == null) {
            return UNKNOWN;
        }
        if (!isWithin(v, 0, MOST_READ)) {
            return OUTSIDE;
        }
        if (readings.isFull()) {
            return FULL;
        }
        return readings.take(t, g, v);
    }

    public int back(int n) {
        if (!isWithin(n, 0, readings.count)) {
            return OUTSIDE;
        }
        readings.count -= n;
        return readings.count;
    }

    public int leans(int g) {
        if (clay.girlAt(g) == null) {
            return UNKNOWN;
        }
        int set = 0;
        for (int leaning = 0; leaning <= MOST_LEAN; leaning++) {
            if (allSoWith(NONE, 0, g, leaning)) {
                set |= 1 << leaning;
            }
        }
        return set;
    }

    public int arms(int t) {
        Right who = throwerOf(t);
        if (who == null) {
            return UNKNOWN;
        }
        int set = 0;
        for (int arm = LEAST_ARM; arm <= MOST_ARM; arm++) {
            if (allSoWith(t, reachOf(who.kind(), arm), NONE, 0)) {
                set |= 1 << arm;
            }
        }
        return set;
    }

    public int kinds(int t) {
        Right who = throwerOf(t);
        if (who == null) {
            return UNKNOWN;
        }
        int set = 0;
        for (int kind = RIGHT; kind <= STRANGER; kind++) {
            if (allSoWith(t, reachOf(kind, who.arm), NONE, 0)) {
                set |= 1 << kind;
            }
        }
        return set;
    }

    public long odds(int t, int g, int which) {
        Right who = throwerOf(t);
        Girl her = clay.girlAt(g);
        if (who == null || her == null || !isWithin(which, 0, 1)) {
            return LOST;
        }
        int had = 0;
        for (int slip = -1; slip <= 1; slip++) {
            if (her.isHadBy(t, her.nearness(who.reach() + slip, clay.frost))) {
                had++;
            }
        }
        // 0 of 3 and 3 of 3 are the only shares of thirds that are not in least terms
        boolean whole = had == 0 || had == SLIPS;
        int upper = had == SLIPS ? 1 : had;
        int lower = whole ? 1 : SLIPS;
        return which == 0 ? upper : lower;
    }

    // ---- 5 sheets, parts

    public int sheet(int k, int lane, int n) {
        lastFault = 0;
        Sheet row = sheetOf(k);
        if (row == null) {
            return UNKNOWN;
        }
        if (!isLane(lane) || n > MOST_CELLS) {
            return OUTSIDE;
        }
        if (n < 0) {
            return comeTo(SIZE);
        }
        row.renew(lane, n);
        return 1;
    }

    public int lose(int k) {
        Sheet row = sheetOf(k);
        if (row == null) {
            return UNKNOWN;
        }
        if (row.hasNothing()) {
            return 0;
        }
        row.forget();
        return 1;
    }

    public int put(int k, int i, int v) {
        lastFault = 0;
        Sheet row = sheetOf(k);
        if (row == null) {
            return UNKNOWN;
        }
        if (row.hasNothing()) {
            return comeTo(NULL);
        }
        if (!row.hasCell(i)) {
            return comeTo(INDEX);
        }
        row.store(i, v);
        return 1;
    }

    public long cell(int k, int i, int lane) {
        lastFault = 0;
        Sheet row = sheetOf(k);
        if (row == null || !isLane(lane)) {
            return LOST;
        }
        int wrong = row.faultAs(lane);
        if (wrong == 0 && !row.hasCell(i)) {
            wrong = INDEX;
        }
        lastFault = wrong;
        return wrong == 0 ? row.at(i) : LOST;
    }

    public int copy(int k, int i, int other, int j, int n) {
        lastFault = 0;
        Sheet from = sheetOf(k);
        Sheet to = sheetOf(other);
        if (from == null || to == null) {
            return UNKNOWN;
        }
        if (from.hasNothing() || to.hasNothing()) {
            return comeTo(NULL);
        }
        if (from.lane != to.lane) {
            return comeTo(CAST);
        }
        if (!from.reaches(i, n) || !to.reaches(j, n)) {
            return comeTo(INDEX);
        }
        to.takeCells(from, i, j, n);
        return n;
    }

    public int tell(int t) {
        Right who = throwerOf(t);
        return who == null ? UNKNOWN : who.telling(steps);
    }

    public int cheer(int t) {
        Right who = throwerOf(t);
        return who == null ? UNKNOWN : who.cheering(steps);
    }

    public int as(int t, int kind) {
        lastFault = 0;
        Right who = throwerOf(t);
        if (who == null) {
            return UNKNOWN;
        }
        if (!isWithin(kind, RIGHT, STRANGER)) {
            return OUTSIDE;
        }
        return isOfKind(who, kind) ? 1 : comeTo(CAST);
    }

    public int trace() {
        return steps.left;
    }

    public int fault() {
        return lastFault;
    }

    public int many(int what) {
        switch (what) {
            case 0: return clay.girlCount;
            case 1: return throwerCount;
            case 2: return clay.frost;
            case 3: return clay.ringsInAll();
            case 4: return readings.count;
            default: return OUTSIDE;
        }
    }

    // what the calls share

    private Sheet sheetOf(int k) {
        return k < 0 || k >= sheets.length ? null : sheets[k];
    }

    private Right throwerOf(int t) {
        return t < 0 || t >= throwerCount || t >= throwers.length ? null : throwers[t];
    }

    private int comeTo(int wrong) {
        lastFault = wrong;
        return -10 - wrong;
    }

    private void makeAnew() {
        clay.standAs(text);
        for (int t = 0; t < throwers.length; t++) {
            throwers[t] = t < text.throwers ? newThrower(text.kindAt(t), t, text.armAt(t)) : null;
        }
        throwerCount = text.throwers;
        readings.count = 0;
    }

    private static Right newThrower(int kind, int number, int arm) {
        switch (kind) {
            case LEFT: return new Left(number, arm);
            case STRANGER: return new Stranger(number, arm);
            default: return new Right(number, arm);
        }
    }

    private static boolean isOfKind(Right who, int kind) {
        switch (kind) {
            case LEFT: return who instanceof Left;
            case STRANGER: return who instanceof Stranger;
            default: return true;
        }
    }

    private static boolean isLane(int lane) {
        return isWithin(lane, Sheet.BYTES, Sheet.INTS);
    }

    private static boolean isWithin(int v, int least, int most) {
        return v >= least && v <= most;
    }

    private static boolean isAskedOfFeasts(int what) {
        return isWithin(what, 0, 4) || isWithin(what, ASKS_HOLDER, ASKS_HOLDER + MOST_GIRLS - 1);
    }

    private int refusalOfPairs(Sheet row, int i, int n) {
        for (int p = 0; p < n; p++) {
            int refusal = refusalOfPair(row.at(i + 2 * p), row.at(i + 2 * p + 1));
            if (refusal != 0) {
                return refusal;
            }
        }
        return 0;
    }

    private int refusalOfPair(int first, int second) {
        if (second == FROST_ACT || second == CLEAR_ACT) {
            // girls and frosts that a pair may name are both 0 .. 3
            return isWithin(first, 0, MOST_FROST) ? 0 : OUTSIDE;
        }
        if (!isWithin(second, 0, MOST_GIRLS - 1)) {
            return OUTSIDE;
        }
        return throwerOf(first) == null ? UNKNOWN : 0;
    }

    private void tellFeast(Sheet row, int i, int n) {
        told.begin(clay);
        for (int p = 0; p < n && told.firstWrong == NONE; p++) {
            if (!canAct(row.at(i + 2 * p), row.at(i + 2 * p + 1))) {
                told.firstWrong = p;
            }
        }
    }

    private boolean canAct(int first, int second) {
        if (second == FROST_ACT) {
            told.clay.frost = first;
            return true;
        }
        if (second == CLEAR_ACT) {
            return told.clears(first);
        }
        Right who = throwerOf(first);
        return who != null && told.throwsAt(who, second);
    }

    private int winsOf(Right who) {
        int set = 0;
        for (int g = 0; g < clay.girlCount; g++) {
            Girl her = clay.girlAt(g);
            if (her != null && her.isHadBy(who.number, her.nearness(who.reach(), clay.frost))) {
                set |= 1 << g;
            }
        }
        return set;
    }

    private void preparePairing() {
        pairing.begin(throwerCount, clay.girlCount);
        for (int t = 0; t < throwerCount; t++) {
            Right who = throwerOf(t);
            if (who != null) {
                pairing.noteWins(t, winsOf(who));
                noteNearness(who);
            }
        }
    }

    private void noteNearness(Right who) {
        for (int g = 0; g < clay.girlCount; g++) {
            Girl her = clay.girlAt(g);
            if (her != null) {
                pairing.noteNearness(who.number, g, her.nearness(who.reach(), clay.frost));
            }
        }
    }

    /** Whether all readings are so with that reach of thrower t, that leaning of girl g (NONE: as all are). */
    private boolean allSoWith(int t, int reach, int g, int leaning) {
        for (int r = 0; r < readings.count; r++) {
            Right who = throwerOf(readings.throwerAt(r));
            Girl her = clay.girlAt(readings.girlAt(r));
            if (who == null || her == null) {
                return false;
            }
            int supposedReach = who.number == t ? reach : who.reach();
            int supposedLeaning = readings.girlAt(r) == g ? leaning : her.leaning;
            if (nearnessBy(supposedReach, her.yards, supposedLeaning, clay.frost) != readings.nearAt(r)) {
                return false;
            }
        }
        return true;
    }

    private static int apart(int a, int b) {
        return a < b ? b - a : a - b;
    }

    private static int nearnessBy(int reach, int yards, int leaning, int frost) {
        int off = apart(reach, yards);
        return off <= leaning ? 0 : off + frost;
    }

    private static int reachOf(int kind, int arm) {
        switch (kind) {
            case LEFT: return arm + 1;
            case STRANGER: return 2 * arm;
            default: return arm;
        }
    }

    /** A girl and the rings that lie with her, the lowest first. */
    private static final class Girl {
        int yards;
        int leaning;
        int rings;
        final int[] thrownBy = new int[MOST_RINGS];
        final int[] nears = new int[MOST_RINGS];

        void stand(int newYards, int newLeaning) {
            yards = newYards;
            leaning = newLeaning;
            rings = 0;
        }

        void becomeLike(Girl other) {
            stand(other.yards, other.leaning);
            for (int r = 0; r < other.rings; r++) {
                lay(other.throwerAt(r), other.nearAt(r));
            }
        }

        int nearness(int reach, int frost) {
            return nearnessBy(reach, yards, leaning, frost);
        }

        boolean isFull() {
            return rings >= MOST_RINGS;
        }

        int throwerAt(int r) {
            return r < 0 || r >= rings || r >= thrownBy.length ? NONE : thrownBy[r];
        }

        int nearAt(int r) {
            return r < 0 || r >= rings || r >= nears.length ? NONE : nears[r];
        }

        void lay(int thrower, int near) {
            if (rings >= 0 && rings < thrownBy.length && rings < nears.length) {
                thrownBy[rings] = thrower;
                nears[rings] = near;
                rings++;
            }
        }

        int takeLast() {
            int thrower = throwerAt(rings - 1);
            if (rings > 0) {
                rings--;
            }
            return thrower;
        }

        /** The ring by which somebody has her; rings of measure 0 are the ringers, and no others are. */
        int holdingRing() {
            int best = NONE;
            for (int r = 0; r < rings; r++) {
                int near = nearAt(r);
                if (best == NONE || near == 0 || near < nearAt(best)) {
                    best = r;
                }
            }
            return best;
        }

        int holder() {
            return throwerAt(holdingRing());
        }

        int holdersNearness() {
            return nearAt(holdingRing());
        }

        int ringers() {
            int found = 0;
            for (int r = 0; r < rings; r++) {
                if (nearAt(r) == 0) {
                    found++;
                }
            }
            return found;
        }

        int ringsOf(int thrower) {
            int found = 0;
            for (int r = 0; r < rings; r++) {
                if (throwerAt(r) == thrower) {
                    found++;
                }
            }
            return found;
        }

        /** Whether one more ring, laid and lifted again, would leave her to its thrower. */
        boolean isHadBy(int thrower, int near) {
            if (isFull()) {
                return false;
            }
            lay(thrower, near);
            boolean had = holder() == thrower;
            takeLast();
            return had;
        }
    }

    /** The frost and the girls who stand in it. */
    private static final class Clay {
        int frost;
        int girlCount;
        final Girl[] girls = new Girl[MOST_GIRLS];

        Clay() {
            for (int g = 0; g < girls.length; g++) {
                girls[g] = new Girl();
            }
        }

        Girl girlAt(int g) {
            return g < 0 || g >= girlCount || g >= girls.length ? null : girls[g];
        }

        void standAs(Text text) {
            frost = text.frost;
            girlCount = text.girls;
            for (int g = 0; g < girlCount; g++) {
                Girl her = girlAt(g);
                if (her != null) {
                    her.stand(text.yardsAt(g), text.leaningAt(g));
                }
            }
        }

        void becomeLike(Clay other) {
            frost = other.frost;
            girlCount = other.girlCount;
            for (int g = 0; g < girlCount; g++) {
                Girl her = girlAt(g);
                Girl model = other.girlAt(g);
                if (her != null && model != null) {
                    her.becomeLike(model);
                }
            }
        }

        int ringsInAll() {
            int found = 0;
            for (int g = 0; g < girlCount; g++) {
                Girl her = girlAt(g);
                found += her == null ? 0 : her.rings;
            }
            return found;
        }

        int ringsOf(int thrower) {
            int found = 0;
            for (int g = 0; g < girlCount; g++) {
                Girl her = girlAt(g);
                found += her == null ? 0 : her.ringsOf(thrower);
            }
            return found;
        }

        int heldBy(int thrower) {
            int set = 0;
            for (int g = 0; g < girlCount; g++) {
                if (holderOf(g) == thrower) {
                    set |= 1 << g;
                }
            }
            return set;
        }

        int holderOf(int g) {
            Girl her = girlAt(g);
            return her == null ? NONE : her.holder();
        }

        int girlsHeld() {
            int found = 0;
            for (int g = 0; g < girlCount; g++) {
                if (holderOf(g) != NONE) {
                    found++;
                }
            }
            return found;
        }
    }

    /** A thrower of the plain kind; the others are kinds of him. */
    private static class Right {
        final int number;
        int arm;

        Right(int number, int arm) {
            this.number = number;
            this.arm = arm;
        }

        int kind() {
            return RIGHT;
        }

        final int reach() {
            return reachOf(kind(), arm);
        }

        int telling(Trace steps) {
            return plainTelling(steps);
        }

        /** Apart from telling, so that a kind further down can leave out what lies between. */
        final int plainTelling(Trace steps) {
            steps.leave(1);
            return arm;
        }

        int cheering(Trace steps) {
            steps.leave(4);
            return number;
        }
    }

    private static class Left extends Right {
        Left(int number, int arm) {
            super(number, arm);
        }

        int kind() {
            return LEFT;
        }

        int telling(Trace steps) {
            steps.leave(2);
            return super.telling(steps) + 100;
        }
    }

    private static final class Stranger extends Left {
        Stranger(int number, int arm) {
            super(number, arm);
        }

        int kind() {
            return STRANGER;
        }

        int telling(Trace steps) {
            steps.leave(3);
            int asLeft = super.telling(steps);
            return asLeft + plainTelling(steps);
        }

        int cheering(Trace steps) {
            steps.leave(5);
            return 50;
        }
    }

    /** What the bodies leave as they begin. */
    private static final class Trace {
        int left;

        void leave(int body) {
            left = 31 * left + body;
        }
    }

    /** A sheet keeps one row for good and uses it again, so that new rows cost nothing. */
    private static final class Sheet {
        static final int NO_LANE = -1, BYTES = 0, SHORTS = 1, INTS = 2;

        int lane = NO_LANE;
        int length;
        final int[] cells = new int[MOST_CELLS];

        boolean hasNothing() {
            return lane == NO_LANE;
        }

        void forget() {
            lane = NO_LANE;
            length = 0;
        }

        void renew(int newLane, int newLength) {
            lane = newLane;
            length = newLength;
            for (int i = 0; i < cells.length; i++) {
                cells[i] = 0;
            }
        }

        int faultAs(int asLane) {
            if (hasNothing()) {
                return NULL;
            }
            return lane == asLane ? 0 : CAST;
        }

        boolean hasCell(int i) {
            return i >= 0 && i < length;
        }

        boolean reaches(int i, int n) {
            return i >= 0 && i <= length && n >= 0 && n <= length - i;
        }

        int at(int i) {
            return hasCell(i) && i < cells.length ? cells[i] : 0;
        }

        void store(int i, int v) {
            if (hasCell(i) && i < cells.length) {
                cells[i] = cut(v);
            }
        }

        int cut(int v) {
            switch (lane) {
                case BYTES: return (byte) v;
                case SHORTS: return (short) v;
                default: return v;
            }
        }

        /** Goes from the end where cells of the same row would else be overwritten before they are read. */
        void takeCells(Sheet from, int i, int j, int n) {
            if (i < j) {
                for (int c = n - 1; c >= 0; c--) {
                    store(j + c, from.at(i + c));
                }
            } else {
                for (int c = 0; c < n; c++) {
                    store(j + c, from.at(i + c));
                }
            }
        }
    }

    /** Reads a dale apart from the one that stands, which a faulty text must not touch. */
    private static final class Text {
        static final int OPENING = 0, FROST = 1, GIRL = 2, YARDS = 3;
        static final int LEANING = 4, LETTER = 5, ARM = 6, THROWER = 7;

        int awaited;
        int frost;
        int girls;
        int throwers;
        final int[] yards = new int[MOST_GIRLS];
        final int[] leanings = new int[MOST_GIRLS];
        final int[] letters = new int[MOST_THROWERS];
        final int[] armsRead = new int[MOST_THROWERS];

        int firstFault(Sheet row, int i, int n) {
            awaited = OPENING;
            girls = 0;
            throwers = 0;
            for (int p = 0; p < n; p++) {
                if (!goesOnWith(row.at(i + p))) {
                    return p;
                }
            }
            return awaited == THROWER ? NONE : n;
        }

        boolean goesOnWith(int code) {
            switch (awaited) {
                case OPENING: return thenAwait(FROST, code == 'q');
                case FROST: return takesFrost(digit(code));
                case GIRL: return takesMark(code);
                case YARDS: return takesYards(digit(code));
                case LEANING: return takesLeaning(digit(code));
                case LETTER: return takesLetter(kindBy(code));
                case ARM: return takesArm(digit(code));
                default: return thenAwait(LETTER, code == ';' && throwers < MOST_THROWERS);
            }
        }

        boolean thenAwait(int next, boolean fits) {
            awaited = next;
            return fits;
        }

        boolean takesFrost(int v) {
            frost = v;
            return thenAwait(GIRL, isWithin(v, 0, MOST_FROST));
        }

        boolean takesMark(int code) {
            if (code == ',') {
                return thenAwait(YARDS, girls < MOST_GIRLS);
            }
            return thenAwait(LETTER, code == ';' && girls > 0);
        }

        boolean takesYards(int v) {
            if (girls >= 0 && girls < yards.length) {
                yards[girls] = v;
            }
            return thenAwait(LEANING, isWithin(v, LEAST_YARDS, MOST_YARDS));
        }

        boolean takesLeaning(int v) {
            if (girls >= 0 && girls < leanings.length) {
                leanings[girls] = v;
            }
            girls++;
            return thenAwait(GIRL, isWithin(v, 0, MOST_LEAN));
        }

        boolean takesLetter(int kind) {
            if (throwers >= 0 && throwers < letters.length) {
                letters[throwers] = kind;
            }
            return thenAwait(ARM, isWithin(kind, RIGHT, STRANGER));
        }

        boolean takesArm(int v) {
            if (throwers >= 0 && throwers < armsRead.length) {
                armsRead[throwers] = v;
            }
            throwers++;
            return thenAwait(THROWER, isWithin(v, LEAST_ARM, MOST_ARM));
        }

        static int digit(int code) {
            return code >= '0' && code <= '9' ? code - '0' : NONE;
        }

        static int kindBy(int code) {
            switch (code) {
                case 'r': return RIGHT;
                case 'l': return LEFT;
                case 's': return STRANGER;
                default: return NONE;
            }
        }

        int yardsAt(int g) {
            return g < 0 || g >= yards.length ? LEAST_YARDS : yards[g];
        }

        int leaningAt(int g) {
            return g < 0 || g >= leanings.length ? 0 : leanings[g];
        }

        int kindAt(int t) {
            return t < 0 || t >= letters.length ? RIGHT : letters[t];
        }

        int armAt(int t) {
            return t < 0 || t >= armsRead.length ? LEAST_ARM : armsRead[t];
        }
    }

    /** Readings in the order in which they were taken. */
    private static final class Readings {
        int count;
        final int[] throwersRead = new int[MOST_READINGS];
        final int[] girlsRead = new int[MOST_READINGS];
        final int[] nears = new int[MOST_READINGS];

        boolean isFull() {
            return count >= MOST_READINGS;
        }

        int take(int t, int g, int near) {
            int number = count;
            if (number >= 0 && number < MOST_READINGS) {
                throwersRead[number] = t;
                girlsRead[number] = g;
                nears[number] = near;
                count++;
            }
            return number;
        }

        int throwerAt(int r) {
            return r < 0 || r >= throwersRead.length ? NONE : throwersRead[r];
        }

        int girlAt(int r) {
            return r < 0 || r >= girlsRead.length ? NONE : girlsRead[r];
        }

        int nearAt(int r) {
            return r < 0 || r >= nears.length ? NONE : nears[r];
        }
    }

    /** A feast that is only told: it has a clay of its own. */
    private static final class Feast {
        final Clay clay = new Clay();
        int firstWrong;
        int ringers;
        int topping;

        void begin(Clay now) {
            clay.becomeLike(now);
            firstWrong = NONE;
            ringers = 0;
            topping = 0;
        }

        boolean throwsAt(Right who, int g) {
            Girl her = clay.girlAt(g);
            if (her == null || her.isFull()) {
                return false;
            }
            int near = her.nearness(who.reach(), clay.frost);
            if (near == 0) {
                ringers++;
                // a ring lies on all others, so any ringer below is one that it lies on
                topping += her.ringers() > 0 ? 1 : 0;
            }
            her.lay(who.number, near);
            return true;
        }

        boolean clears(int g) {
            Girl her = clay.girlAt(g);
            if (her == null) {
                return false;
            }
            her.rings = 0;
            return true;
        }

        int answer(int what) {
            if (what == ASKS_FIRST_WRONG) {
                return firstWrong;
            }
            if (firstWrong != NONE) {
                return -100 - firstWrong;
            }
            switch (what) {
                case 0: return clay.girlsHeld();
                case 2: return ringers;
                case 3: return topping;
                case 4: return clay.frost;
                default: return clay.holderOf(what - ASKS_HOLDER);
            }
        }
    }

    /** Who gets whom, by a table of measures and of who wins whom. */
    private static final class Pairing {
        static final int SETS = 1 << MOST_GIRLS;
        /** One more girl outweighs all measures there can be together. */
        static final int GIRL_WORTH = 1000;

        int throwers;
        int girls;
        final int[] nears = new int[MOST_THROWERS * MOST_GIRLS];
        final int[] winSets = new int[MOST_THROWERS];
        final int[] girlsGiven = new int[MOST_THROWERS];
        final int[] refusedBy = new int[MOST_THROWERS];
        /** By thrower and set of girls taken: the best worth that he and those behind him can reach. */
        final int[] worths = new int[MOST_THROWERS * SETS];

        void begin(int throwerCount, int girlCount) {
            throwers = throwerCount;
            girls = girlCount;
            for (int t = 0; t < MOST_THROWERS; t++) {
                winSets[t] = 0;
                girlsGiven[t] = NONE;
                refusedBy[t] = 0;
            }
        }

        void noteWins(int t, int set) {
            if (t >= 0 && t < winSets.length) {
                winSets[t] = set;
            }
        }

        void noteNearness(int t, int g, int near) {
            if (isInTable(t, g)) {
                nears[t * MOST_GIRLS + g] = near;
            }
        }

        int nearness(int t, int g) {
            return isInTable(t, g) ? nears[t * MOST_GIRLS + g] : 0;
        }

        static boolean isInTable(int t, int g) {
            return isWithin(t, 0, MOST_THROWERS - 1) && isWithin(g, 0, MOST_GIRLS - 1);
        }

        int girlOf(int t) {
            return t < 0 || t >= throwers || t >= girlsGiven.length ? NONE : girlsGiven[t];
        }

        void giveGirl(int t, int g) {
            if (t >= 0 && t < girlsGiven.length) {
                girlsGiven[t] = g;
            }
        }

        int pairs() {
            int found = 0;
            for (int t = 0; t < throwers; t++) {
                if (girlOf(t) != NONE) {
                    found++;
                }
            }
            return found;
        }

        int nearnessTogether() {
            int sum = 0;
            for (int t = 0; t < throwers; t++) {
                sum += girlOf(t) == NONE ? 0 : nearness(t, girlOf(t));
            }
            return sum;
        }

        void matchUp() {
            for (int t = throwers - 1; t >= 0; t--) {
                for (int taken = 0; taken < 1 << girls; taken++) {
                    noteWorth(t, taken, worthWith(t, taken, firstBest(t, taken)));
                }
            }
            int taken = 0;
            for (int t = 0; t < throwers; t++) {
                int g = firstBest(t, taken);
                giveGirl(t, g);
                taken |= g == NONE ? 0 : 1 << g;
            }
        }

        /** The least girl with whom the best worth is reached; none stands behind all girls, as 9 does. */
        int firstBest(int t, int taken) {
            int best = NONE;
            int worth = -1;
            for (int g = 0; g < girls; g++) {
                int reached = isFreeToWin(t, taken, g) ? worthWith(t, taken, g) : -1;
                if (reached > worth) {
                    best = g;
                    worth = reached;
                }
            }
            return worthWith(t, taken, NONE) > worth ? NONE : best;
        }

        boolean isFreeToWin(int t, int taken, int g) {
            int set = t < 0 || t >= winSets.length ? 0 : winSets[t];
            return (set >> g & 1) == 1 && (taken >> g & 1) == 0;
        }

        int worthWith(int t, int taken, int g) {
            if (g == NONE) {
                return worthFrom(t + 1, taken);
            }
            return GIRL_WORTH - nearness(t, g) + worthFrom(t + 1, taken | 1 << g);
        }

        int worthFrom(int t, int taken) {
            boolean known = t >= 0 && t < throwers && taken >= 0 && taken < SETS;
            int at = t * SETS + taken;
            return known && at < worths.length ? worths[at] : 0;
        }

        void noteWorth(int t, int taken, int worth) {
            int at = t * SETS + taken;
            if (at >= 0 && at < worths.length) {
                worths[at] = worth;
            }
        }

        /** Throwers ask and girls refuse: this reaches the wedding that is best for all throwers. */
        void wedAll() {
            // no girl refuses one twice, and one who is wed once stays wed: so many steps are enough
            for (int step = 0; step < MOST_GIRLS * (MOST_THROWERS + 1); step++) {
                int t = firstWhoAsks();
                if (t == NONE) {
                    return;
                }
                ask(t, dearest(t));
            }
        }

        int firstWhoAsks() {
            for (int t = 0; t < throwers; t++) {
                if (girlOf(t) == NONE && dearest(t) != NONE) {
                    return t;
                }
            }
            return NONE;
        }

        int dearest(int t) {
            int best = NONE;
            for (int g = 0; g < girls; g++) {
                if (!isRefused(t, g) && (best == NONE || nearness(t, g) < nearness(t, best))) {
                    best = g;
                }
            }
            return best;
        }

        void ask(int t, int g) {
            int rival = throwerWith(g);
            if (rival == NONE) {
                giveGirl(t, g);
            } else if (wouldRather(g, t, rival)) {
                giveGirl(rival, NONE);
                refuse(rival, g);
                giveGirl(t, g);
            } else {
                refuse(t, g);
            }
        }

        int throwerWith(int g) {
            for (int t = 0; t < throwers; t++) {
                if (girlOf(t) == g) {
                    return t;
                }
            }
            return NONE;
        }

        boolean wouldRather(int g, int t, int rival) {
            int first = nearness(t, g);
            int second = nearness(rival, g);
            return first < second || first == second && t < rival;
        }

        boolean isRefused(int t, int g) {
            return t < 0 || t >= refusedBy.length || (refusedBy[t] >> g & 1) == 1;
        }

        void refuse(int t, int g) {
            if (t >= 0 && t < refusedBy.length) {
                refusedBy[t] |= 1 << g;
            }
        }
    }
}
