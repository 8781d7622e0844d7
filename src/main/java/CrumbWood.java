/**
 * Children are led into a wood, drop crumbs, stones and knots, and follow home by what is still seen.
 * Sets of PLACES are held as bits throughout, as the document tells them.
 */
public final class CrumbWood {
    public static final int BAD = -1, FULL = -2, FINDING = -3, STATE = -4, SPENT = -6, NONE = -9;

    private static final int NOTHING = 1, BEYOND = 2, UNLIKE = 3, NOUGHT = 4, SIZE = 5, FINDINGS = 5;
    private static final int ROWS = 6, ROW_ROOM = 40, TEXTS = 4, TEXT_ROOM = 80, KEPT = 3;
    private static final int MISSING = -1, BYTE_SHIFT = 1000, BLANK = 32;
    private static final int PLACES = 8, FEWEST_PLACES = 2, PATHS = 14, BIRDS = 4, STEPS = 30, HOME = 0;
    private static final int KINDS = 6, GLADE = 1, THICKET = 2, BROOK = 3, MEADOW = 4, CAVE = 5;
    private static final int MARKS = 3, CRUMBS = 0, STONES = 1, KNOTS = 2;
    private static final int FOOL_LIMIT = 20, HOURS = 40, FAR_HOURS = 60, WAY_STEPS = 8, PLAN_STEPS = 8;
    private static final int LOT_STEPS = 20, LOT_FACTOR = 48271, LOT_MODULUS = 2147483647, LOT_SHARE = 64;
    private static final int COUNTS = 11, PLACE_FACTS = 6;

    /** The letter of each KIND, and the KIND that each one also is. */
    private static final int[] LETTERS = {112, 103, 116, 98, 109, 99};
    private static final int[] PARENTS = {0, 0, 0, 0, 1, 2};

    private final Strip[] rows = new Strip[ROWS];
    private final Strip[] texts = new Strip[TEXTS];
    private final Wood wood = new Wood();
    private final Wood[] kept = new Wood[KEPT];
    /** What is only supposed happens here, so that the true WOOD stays. */
    private final Wood aside = new Wood();
    private final Reader reader = new Reader();
    private final Sight sight = new Sight();
    private final Walks walks = new Walks();
    private final int[] findingCounts = new int[FINDINGS + 1];
    private int latestFinding = 0;
    private int toldAsked = 0;
    private long toldUpper = 0;
    private long toldLower = 1;

    public CrumbWood() {
        for (int r = 0; r < ROWS; r++) {
            rows[r] = new Strip(ROW_ROOM);
        }
        for (int t = 0; t < TEXTS; t++) {
            texts[t] = new Strip(TEXT_ROOM);
        }
        for (int k = 0; k < KEPT; k++) {
            kept[k] = new Wood();
        }
    }

    // ---- 1 rows, texts, woods

    public int row(int r, int n) {
        if (!isBelow(r, ROWS) || n > ROW_ROOM) {
            return BAD;
        }
        if (n < 0) {
            return refuse(SIZE);
        }
        rows[r].renew(n, 0);
        return n;
    }

    public int lay(int r, int i, int v) {
        if (!isBelow(r, ROWS)) {
            return BAD;
        }
        int finding = rows[r].lackOf(i);
        if (finding != 0) {
            return refuse(finding);
        }
        toldAsked = rows[r].cells[i];
        rows[r].cells[i] = v;
        return 1;
    }

    public int at(int r, int i) {
        if (!isBelow(r, ROWS)) {
            return BAD;
        }
        int finding = rows[r].lackOf(i);
        if (finding != 0) {
            return refuse(finding);
        }
        toldAsked = rows[r].cells[i];
        return 1;
    }

    public int tear(int r) {
        if (!isBelow(r, ROWS)) {
            return BAD;
        }
        if (rows[r].isMissing()) {
            return refuse(NOTHING);
        }
        rows[r].size = MISSING;
        return 1;
    }

    public int copy(int r, int i, int to, int j, int n) {
        if (!isBelow(r, ROWS) || !isBelow(to, ROWS)) {
            return BAD;
        }
        if (n < 0) {
            return refuse(SIZE);
        }
        if (rows[r].isMissing() || rows[to].isMissing()) {
            return refuse(NOTHING);
        }
        if (!rows[r].hasRun(i, n) || !rows[to].hasRun(j, n)) {
            return refuse(BEYOND);
        }
        System.arraycopy(rows[r].cells, i, rows[to].cells, j, n);
        return 1;
    }

    public int mean(int r) {
        if (!isBelow(r, ROWS)) {
            return BAD;
        }
        if (rows[r].isMissing()) {
            return refuse(NOTHING);
        }
        if (rows[r].size == 0) {
            return refuse(NOUGHT);
        }
        toldAsked = (int) (rows[r].sum() / rows[r].size);
        return 1;
    }

    public int text(int t, int n) {
        if (!isBelow(t, TEXTS) || n > TEXT_ROOM) {
            return BAD;
        }
        if (n < 0) {
            return refuse(SIZE);
        }
        texts[t].renew(n, BLANK);
        return n;
    }

    public int put(int t, int i, int v) {
        if (!isBelow(t, TEXTS)) {
            return BAD;
        }
        int finding = texts[t].lackOf(i);
        if (finding != 0) {
            return refuse(finding);
        }
        int old = texts[t].cells[i];
        texts[t].cells[i] = (byte) v;
        return old + BYTE_SHIFT;
    }

    public int fault(int t) {
        if (!isBelow(t, TEXTS)) {
            return BAD;
        }
        if (texts[t].isMissing()) {
            return refuse(NOTHING);
        }
        return reader.read(texts[t], aside);
    }

    public int wood(int t) {
        if (!isBelow(t, TEXTS)) {
            return BAD;
        }
        if (texts[t].isMissing()) {
            return refuse(NOTHING);
        }
        if (reader.read(texts[t], aside) != NONE) {
            return STATE;
        }
        wood.become(aside);
        for (int k = 0; k < KEPT; k++) {
            kept[k].places = 0;
        }
        return wood.places;
    }

    public int place(int x, int what) {
        if (!wood.hasPlace(x) || !isBelow(what, PLACE_FACTS)) {
            return BAD;
        }
        toldAsked = wood.factOf(x, what);
        return 1;
    }

    public int mark(int x, int kind) {
        if (!wood.hasPlace(x) || kind < GLADE || kind >= KINDS) {
            return BAD;
        }
        if (!wood.isOf(x, kind)) {
            return refuse(UNLIKE);
        }
        switch (kind) {
            case GLADE:
                return wood.crumbsOn(wood.reachFrom(x));
            case THICKET:
                return wood.unseenAt(x);
            case BROOK:
                return wood.washed[x];
            case MEADOW:
                return wood.lying[KNOTS][x];
            default:
                return Integer.bitCount(wood.beside[x] & wood.ofKind[THICKET]);
        }
    }

    public int path(int x, int y, int is) {
        if (!wood.hasPlace(x) || !wood.hasPlace(y) || x == y || !isBelow(is, 2)) {
            return BAD;
        }
        int was = wood.isBeside(x, y) ? 1 : 0;
        wood.join(x, y, is == 1);
        return was;
    }

    public int bird(int i) {
        if (!isBelow(i, wood.birds)) {
            return BAD;
        }
        toldAsked = wood.flightFrom(wood.perches[i]);
        return wood.perches[i];
    }

    public int pocket(int m) {
        if (!isBelow(m, MARKS)) {
            return BAD;
        }
        return wood.pockets[m];
    }

    // ---- 2 led, dropped, eaten

    public int lead(int x) {
        if (!wood.hasPlace(x)) {
            return BAD;
        }
        if (!wood.isBeside(wood.standing(), x)) {
            return STATE;
        }
        if (wood.steps >= STEPS) {
            return FULL;
        }
        wood.stepTo(x);
        return wood.steps;
    }

    public int drop(int m) {
        if (!isBelow(m, MARKS)) {
            return BAD;
        }
        if (wood.pockets[m] == 0) {
            return STATE;
        }
        wood.dropHere(m);
        return wood.pockets[m];
    }

    public int fool(int x, int m) {
        if (!wood.hasPlace(x) || !isBelow(m, MARKS)) {
            return BAD;
        }
        if (wood.lying[m][x] >= FOOL_LIMIT) {
            return FULL;
        }
        wood.addMark(x, m);
        return wood.lying[m][x];
    }

    public int take(int x, int m) {
        if (!wood.hasPlace(x) || !isBelow(m, MARKS)) {
            return BAD;
        }
        int taken = wood.lying[m][x];
        wood.lying[m][x] = 0;
        return taken;
    }

    public int hours(int n) {
        if (!isUpTo(n, HOURS)) {
            return BAD;
        }
        if (wood.isEmpty()) {
            return STATE;
        }
        return wood.passHours(n);
    }

    public int here() {
        if (wood.isEmpty()) {
            return STATE;
        }
        toldAsked = wood.steps;
        return wood.standing();
    }

    public int led(int r) {
        if (!isBelow(r, ROWS)) {
            return BAD;
        }
        if (wood.isEmpty()) {
            return STATE;
        }
        return rows[r].fillFrom(wood.way, wood.steps + 1);
    }

    public int keep(int k) {
        if (!isBelow(k, KEPT)) {
            return BAD;
        }
        if (wood.isEmpty()) {
            return STATE;
        }
        kept[k].become(wood);
        return wood.steps;
    }

    public int on(int k) {
        if (!isBelow(k, KEPT)) {
            return BAD;
        }
        if (kept[k].isEmpty()) {
            return refuse(NOTHING);
        }
        wood.become(kept[k]);
        return wood.steps;
    }

    // ---- 3 home (aside)

    public int home() {
        if (wood.isEmpty()) {
            return STATE;
        }
        boolean found = sight.findsHome(wood);
        toldAsked = sight.steps;
        return found ? 1 : 0;
    }

    public int back(int r) {
        if (!isBelow(r, ROWS)) {
            return BAD;
        }
        if (wood.isEmpty()) {
            return STATE;
        }
        sight.findsHome(wood);
        return rows[r].fillFrom(sight.trail, sight.steps + 1);
    }

    public int wrong() {
        if (wood.isEmpty()) {
            return STATE;
        }
        sight.findsHome(wood);
        int both = Math.min(sight.steps, wood.steps);
        for (int i = 0; i < both; i++) {
            if (sight.trail[i + 1] != wood.way[wood.steps - i - 1]) {
                return i;
            }
        }
        return NONE;
    }

    public int waits() {
        if (wood.isEmpty()) {
            return STATE;
        }
        aside.become(wood);
        for (int h = 0; h <= FAR_HOURS; h++) {
            if (!sight.findsHome(aside)) {
                return h;
            }
            aside.passHours(1);
        }
        return NONE;
    }

    public int nearest() {
        if (wood.isEmpty()) {
            return STATE;
        }
        // A shortest way passes no PLACE twice, so that more steps than PLACES are never needed.
        for (int n = 0; n < wood.places; n++) {
            int number = walks.numberOf(wood, n, wood.all());
            if (number > 0) {
                toldAsked = number;
                return n;
            }
        }
        return NONE;
    }

    // ---- 4 where to drop (aside: MARKS that lie stay, those of the plan are added)

    public int fewest(int r, int n) {
        return plan(r, n, false);
    }

    public int surest(int r, int n) {
        return plan(r, n, true);
    }

    public int astray() {
        if (wood.isEmpty()) {
            return STATE;
        }
        return sight.findsHome(wood) ? wood.all() & ~sight.homeWithStone(wood) : 0;
    }

    public int helps() {
        if (wood.isEmpty()) {
            return STATE;
        }
        return sight.findsHome(wood) ? 0 : sight.homeWithStone(wood);
    }

    // ---- 5 chances

    public int odds() {
        if (wood.isEmpty()) {
            return STATE;
        }
        sight.look(wood);
        tellChances(sight.luckyCases(wood.standing(), 0), sight.cases());
        return 1;
    }

    public int best() {
        if (wood.isEmpty()) {
            return STATE;
        }
        sight.look(wood);
        int chosen = 0;
        int greatest = MISSING;
        for (int x = 0; x < wood.places; x++) {
            int lucky = sight.luckyCases(wood.standing(), 1 << x);
            if (lucky > greatest) {
                greatest = lucky;
                chosen = x;
            }
        }
        tellChances(greatest, sight.cases());
        return chosen;
    }

    // ---- 6 by what lies, by birds

    public int ways(int n) {
        if (!isUpTo(n, WAY_STEPS)) {
            return BAD;
        }
        if (wood.isEmpty()) {
            return STATE;
        }
        int number = walks.numberOf(wood, n, wood.marked());
        toldAsked = walks.firstStep;
        return number;
    }

    public int sure(int n) {
        if (!isUpTo(n, WAY_STEPS)) {
            return BAD;
        }
        if (wood.isEmpty()) {
            return STATE;
        }
        return walks.commonPlaces(wood, n, wood.marked());
    }

    public int was(int i, int n) {
        if (!isBelow(i, wood.birds) || !isUpTo(n, HOURS)) {
            return BAD;
        }
        int set = 1 << wood.perches[i];
        for (int h = 0; h < n; h++) {
            set = wood.flownFrom(set);
        }
        return set;
    }

    public int bare() {
        if (wood.isEmpty()) {
            return STATE;
        }
        aside.become(wood);
        for (int h = 0; h <= FAR_HOURS; h++) {
            if (aside.totalOf(CRUMBS) == 0) {
                return h;
            }
            aside.passHours(1);
        }
        return NONE;
    }

    // ---- 7 lots

    public int lots(int n, int seed) {
        if (n < 1 || n > LOT_STEPS || seed < 1 || seed >= LOT_MODULUS) {
            return BAD;
        }
        if (wood.isEmpty()) {
            return STATE;
        }
        if (wood.steps + n > STEPS) {
            return FULL;
        }
        long lot = seed;
        for (int i = 0; i < n; i++) {
            int around = wood.beside[wood.standing()];
            if (around == 0) {
                return i;
            }
            lot = lot * LOT_FACTOR % LOT_MODULUS;
            wood.stepTo(member(around, (int) (lot % Integer.bitCount(around))));
            if (lot / LOT_SHARE % 2 == 1 && wood.pockets[CRUMBS] > 0) {
                wood.dropHere(CRUMBS);
            }
        }
        return n;
    }

    // ---- 8 what is told

    public int asked() {
        return toldAsked;
    }

    public long upper() {
        return toldUpper;
    }

    public long lower() {
        return toldLower;
    }

    public int count(int what) {
        if (!isBelow(what, COUNTS)) {
            return BAD;
        }
        switch (what) {
            case 0:
                return wood.places;
            case 1:
                return wood.pathNumber();
            case 2:
                return wood.birds;
            case 3:
                return wood.steps;
            case 4:
            case 5:
            case 6:
                return wood.totalOf(what - 4);
            case 7:
                return thereOf(rows);
            case 8:
                return thereOf(texts);
            case 9:
                return keptNumber();
            default:
                return Integer.bitCount(wood.ofKind[THICKET]);
        }
    }

    public int finding() {
        return latestFinding;
    }

    public int findings(int f) {
        if (f < 1 || f > FINDINGS) {
            return BAD;
        }
        return findingCounts[f];
    }

    public long digest() {
        long h = 17;
        for (int what = 0; what < COUNTS; what++) {
            h = 31 * h + count(what);
        }
        h = wood.digestOn(h);
        for (int k = 0; k < KEPT; k++) {
            h = 31 * h + (kept[k].isEmpty() ? MISSING : kept[k].steps);
        }
        for (int r = 0; r < ROWS; r++) {
            h = rows[r].digestOn(h);
        }
        for (int t = 0; t < TEXTS; t++) {
            h = texts[t].digestOn(h);
        }
        return h;
    }

    // ---- behind the face

    private static boolean isBelow(int i, int bound) {
        return i >= 0 && i < bound;
    }

    private static boolean isUpTo(int i, int most) {
        return i >= 0 && i <= most;
    }

    /** The least PLACE of a set that is not empty. */
    private static int least(int set) {
        return Integer.bitCount((set & -set) - 1);
    }

    /** The PLACE of a set ahead of which there are i less ones; i is below the set's size. */
    private static int member(int set, int i) {
        int left = set;
        for (int k = 0; k < i; k++) {
            left &= left - 1;
        }
        return least(left);
    }

    private int refuse(int finding) {
        latestFinding = finding;
        findingCounts[finding]++;
        return FINDING;
    }

    private void tellChances(int lucky, int cases) {
        toldUpper = lucky;
        toldLower = cases;
        // The cases are a power of two, so that halving alone brings lowest terms, and 0 to 0 by 1.
        for (int i = 0; i < PLACES && toldLower > 1 && toldUpper % 2 == 0; i++) {
            toldUpper /= 2;
            toldLower /= 2;
        }
    }

    private static int thereOf(Strip[] strips) {
        int number = 0;
        for (int i = 0; i < strips.length; i++) {
            if (!strips[i].isMissing()) {
                number++;
            }
        }
        return number;
    }

    private int keptNumber() {
        int number = 0;
        for (int k = 0; k < KEPT; k++) {
            if (!kept[k].isEmpty()) {
                number++;
            }
        }
        return number;
    }

    private int plan(int r, int n, boolean oneGone) {
        if (!isBelow(r, ROWS) || !isUpTo(n, HOURS)) {
            return BAD;
        }
        if (wood.isEmpty()) {
            return STATE;
        }
        if (rows[r].isMissing()) {
            return refuse(NOTHING);
        }
        if (rows[r].size > PLAN_STEPS) {
            return refuse(SIZE);
        }
        int from = wood.standing();
        int offered = 1 << from;
        for (int i = 0; i < rows[r].size; i++) {
            int x = rows[r].cells[i];
            if (!wood.hasPlace(x) || !wood.isBeside(from, x)) {
                return refuse(UNLIKE);
            }
            from = x;
            offered |= 1 << x;
        }
        aside.become(wood);
        aside.passHours(n);
        sight.look(aside);
        int chosen = sight.fewestStones(from, offered, oneGone);
        if (chosen == NONE) {
            return NONE;
        }
        toldAsked = chosen;
        return Integer.bitCount(chosen);
    }

    /** A ROW, or a TEXT, whose bytes stand in ints; its cells are made once and used again. */
    private static final class Strip {
        private final int[] cells;
        private int size = MISSING;

        Strip(int room) {
            cells = new int[Math.max(room, 0)];
        }

        boolean isMissing() {
            return size < 0;
        }

        /** The FINDING that stands against the use of place i; 0: none does. */
        int lackOf(int i) {
            if (isMissing()) {
                return NOTHING;
            }
            return isBelow(i, size) ? 0 : BEYOND;
        }

        /** Whether n (not below 0) places from i on are there. */
        boolean hasRun(int i, int n) {
            return i >= 0 && i <= size - n;
        }

        void renew(int n, int filling) {
            size = Math.min(n, cells.length);
            for (int i = 0; i < size; i++) {
                cells[i] = filling;
            }
        }

        int fillFrom(int[] from, int n) {
            size = Math.min(n, Math.min(from.length, cells.length));
            for (int i = 0; i < size; i++) {
                cells[i] = from[i];
            }
            return size;
        }

        long sum() {
            long sum = 0;
            for (int i = 0; i < size; i++) {
                sum += cells[i];
            }
            return sum;
        }

        long digestOn(long start) {
            long h = 31 * start + size;
            for (int i = 0; i < size; i++) {
                h = 31 * h + cells[i];
            }
            return h;
        }
    }

    /** Places, paths, birds, marks, and the children; without PLACES it is none (missing, where it is kept). */
    private static final class Wood {
        private int places = 0;
        private int birds = 0;
        private int steps = 0;
        private final int[] kinds = new int[PLACES];
        /** For each KIND the set of PLACES that are of it, those of the KINDS under it too. */
        private final int[] ofKind = new int[KINDS];
        private final int[] beside = new int[PLACES];
        private final int[][] lying = new int[MARKS][PLACES];
        private final int[] washed = new int[PLACES];
        private final int[] perches = new int[BIRDS];
        private final int[] pockets = new int[MARKS];
        private final int[] way = new int[STEPS + 1];

        void clear() {
            places = 0;
            birds = 0;
            steps = 0;
            way[0] = HOME;
            for (int k = 0; k < KINDS; k++) {
                ofKind[k] = 0;
            }
            for (int m = 0; m < MARKS; m++) {
                pockets[m] = 0;
            }
        }

        void become(Wood other) {
            places = other.places;
            birds = other.birds;
            steps = other.steps;
            System.arraycopy(other.kinds, 0, kinds, 0, PLACES);
            System.arraycopy(other.ofKind, 0, ofKind, 0, KINDS);
            System.arraycopy(other.beside, 0, beside, 0, PLACES);
            for (int m = 0; m < MARKS; m++) {
                System.arraycopy(other.lying[m], 0, lying[m], 0, PLACES);
            }
            System.arraycopy(other.washed, 0, washed, 0, PLACES);
            System.arraycopy(other.perches, 0, perches, 0, BIRDS);
            System.arraycopy(other.pockets, 0, pockets, 0, MARKS);
            System.arraycopy(other.way, 0, way, 0, STEPS + 1);
        }

        void addPlace(int kind) {
            int x = places;
            places++;
            kinds[x] = kind;
            beside[x] = 0;
            washed[x] = 0;
            for (int m = 0; m < MARKS; m++) {
                lying[m][x] = 0;
            }
            ofKind[kind] |= 1 << x;
            ofKind[PARENTS[kind]] |= 1 << x;
            ofKind[0] |= 1 << x;
        }

        void addBird(int x) {
            perches[birds] = x;
            birds++;
        }

        boolean isEmpty() {
            return places == 0;
        }

        boolean hasPlace(int x) {
            return isBelow(x, places);
        }

        boolean isOf(int x, int kind) {
            return (ofKind[kind] >> x & 1) == 1;
        }

        boolean isBeside(int x, int y) {
            return (beside[x] >> y & 1) == 1;
        }

        int all() {
            return ofKind[0];
        }

        int standing() {
            return way[steps];
        }

        void join(int x, int y, boolean is) {
            if (is) {
                beside[x] |= 1 << y;
                beside[y] |= 1 << x;
            } else {
                beside[x] &= ~(1 << y);
                beside[y] &= ~(1 << x);
            }
        }

        void stepTo(int x) {
            if (steps < STEPS) {
                steps++;
                way[steps] = x;
            }
        }

        void addMark(int x, int m) {
            if (m == CRUMBS && isOf(x, BROOK)) {
                washed[x]++;
            } else {
                lying[m][x]++;
            }
        }

        void dropHere(int m) {
            pockets[m]--;
            addMark(standing(), m);
        }

        /** What is SEEN of a PLACE from beside: 1 CRUMBS, 2 STONES, 4 KNOTS, together. */
        int seenAt(int x) {
            if (isOf(x, CAVE)) {
                return 0;
            }
            int seen = lying[STONES][x] > 0 ? 2 : 0;
            if (isOf(x, THICKET)) {
                return seen;
            }
            if (lying[CRUMBS][x] > 0) {
                seen |= 1;
            }
            if (lying[KNOTS][x] > 0 || isOf(x, MEADOW)) {
                seen |= 4;
            }
            return seen;
        }

        int unseenAt(int x) {
            int seen = seenAt(x);
            int number = 0;
            for (int m = 0; m < MARKS; m++) {
                if ((seen >> m & 1) == 0) {
                    number += lying[m][x];
                }
            }
            return number;
        }

        int factOf(int x, int what) {
            switch (what) {
                case 0:
                    return kinds[x];
                case 1:
                    return beside[x];
                case 2:
                case 3:
                case 4:
                    return lying[what - 2][x];
                default:
                    return seenAt(x);
            }
        }

        /** The PLACES whose CRUMBS a BIRD at x eats. */
        int reachFrom(int x) {
            int own = 1 << x;
            return isOf(x, GLADE) ? own | beside[x] & ~ofKind[THICKET] : own;
        }

        int crumbsOn(int set) {
            int number = 0;
            for (int x = 0; x < places; x++) {
                if ((set >> x & 1) == 1) {
                    number += lying[CRUMBS][x];
                }
            }
            return number;
        }

        int flightFrom(int x) {
            if (beside[x] == 0) {
                return x;
            }
            int above = beside[x] & -(2 << x);
            return least(above != 0 ? above : beside[x]);
        }

        /** The PLACES from which a BIRD flies to one of a set. */
        int flownFrom(int set) {
            int from = 0;
            for (int x = 0; x < places; x++) {
                if ((set >> flightFrom(x) & 1) == 1) {
                    from |= 1 << x;
                }
            }
            return from;
        }

        int passHours(int n) {
            int eaten = 0;
            for (int h = 0; h < n; h++) {
                for (int i = 0; i < birds; i++) {
                    int reach = reachFrom(perches[i]);
                    eaten += crumbsOn(reach);
                    clearCrumbs(reach);
                    perches[i] = flightFrom(perches[i]);
                }
            }
            return eaten;
        }

        void clearCrumbs(int set) {
            for (int x = 0; x < places; x++) {
                if ((set >> x & 1) == 1) {
                    lying[CRUMBS][x] = 0;
                }
            }
        }

        int totalOf(int m) {
            int number = 0;
            for (int x = 0; x < places; x++) {
                number += lying[m][x];
            }
            return number;
        }

        /** The PLACES on which a MARK lies, whatever is SEEN. */
        int marked() {
            int set = 0;
            for (int x = 0; x < places; x++) {
                if (lying[CRUMBS][x] + lying[STONES][x] + lying[KNOTS][x] > 0) {
                    set |= 1 << x;
                }
            }
            return set;
        }

        int pathNumber() {
            int ends = 0;
            for (int x = 0; x < places; x++) {
                ends += Integer.bitCount(beside[x]);
            }
            return ends / 2;
        }

        long digestOn(long start) {
            long h = start;
            for (int m = 0; m < MARKS; m++) {
                h = 31 * h + pockets[m];
            }
            for (int x = 0; x < places; x++) {
                for (int what = 0; what < PLACE_FACTS; what++) {
                    h = 31 * h + factOf(x, what);
                }
            }
            for (int i = 0; i < birds; i++) {
                h = 31 * h + perches[i];
            }
            // Without PLACES there is no HOME from which they could have been LED.
            for (int i = 0; i <= steps && !isEmpty(); i++) {
                h = 31 * h + way[i];
            }
            return h;
        }
    }

    /** Reads a WOOD from a TEXT, item by item, up to the first FAULT. */
    private static final class Reader {
        private static final int AT_PLACES = 0, AT_PATHS = 1, AT_BIRDS = 2, AT_END = 3;
        private static final int PATH_SIGN = 45, BIRD_SIGN = 118, POCKET_SIGN = 107, FIGURE_0 = 48;

        private int[] signs = new int[0];
        private int size = 0;
        private int spot = 0;
        private int stage = AT_PLACES;
        private int paths = 0;

        /** The FAULT's place, or NONE; into is a WOOD by the TEXT if there is none. */
        int read(Strip text, Wood into) {
            signs = text.cells;
            size = text.size;
            spot = 0;
            stage = AT_PLACES;
            paths = 0;
            into.clear();
            for (int item = 0; item <= size; item++) {
                skipBlanks();
                if (spot >= size) {
                    return stage == AT_END ? NONE : size;
                }
                if (!readItem(into)) {
                    return spot;
                }
            }
            return size;
        }

        private void skipBlanks() {
            for (int i = 0; i < size && spot < size && signs[spot] == BLANK; i++) {
                spot++;
            }
        }

        /** Goes on behind the item if it is right; else spot is where the FAULT is. */
        private boolean readItem(Wood into) {
            int sign = signs[spot];
            if (sign == PATH_SIGN) {
                return startsItem(into, AT_PATHS, paths < PATHS) && readPath(into);
            }
            if (sign == BIRD_SIGN) {
                return startsItem(into, AT_BIRDS, into.birds < BIRDS) && readBird(into);
            }
            if (sign == POCKET_SIGN) {
                return startsItem(into, AT_END, stage != AT_END) && readPockets(into);
            }
            int kind = kindOf(sign);
            if (kind == NONE || stage != AT_PLACES || into.places >= PLACES) {
                return false;
            }
            into.addPlace(kind);
            spot++;
            return true;
        }

        private static int kindOf(int letter) {
            for (int kind = 0; kind < KINDS; kind++) {
                if (LETTERS[kind] == letter) {
                    return kind;
                }
            }
            return NONE;
        }

        /** Steps behind the sign of an item if its sort may stand here. */
        private boolean startsItem(Wood into, int sort, boolean hasRoom) {
            if (into.places < FEWEST_PLACES || stage > sort || !hasRoom) {
                return false;
            }
            stage = sort;
            spot++;
            return true;
        }

        /** The figure at spot, NONE if it is none below the bound. */
        private int figureBelow(int bound) {
            if (spot >= size) {
                return NONE;
            }
            int figure = signs[spot] - FIGURE_0;
            return isBelow(figure, bound) ? figure : NONE;
        }

        private boolean readPath(Wood into) {
            int x = figureBelow(into.places);
            if (x == NONE) {
                return false;
            }
            spot++;
            int y = figureBelow(into.places);
            if (y == NONE || y == x || into.isBeside(x, y)) {
                return false;
            }
            spot++;
            paths++;
            into.join(x, y, true);
            return true;
        }

        private boolean readBird(Wood into) {
            int x = figureBelow(into.places);
            if (x == NONE) {
                return false;
            }
            spot++;
            into.addBird(x);
            return true;
        }

        private boolean readPockets(Wood into) {
            for (int m = 0; m < MARKS; m++) {
                int number = figureBelow(10);
                if (number == NONE) {
                    return false;
                }
                spot++;
                into.pockets[m] = number;
            }
            return true;
        }
    }

    /** What is SEEN in a WOOD, as sets of PLACES, and how children follow home by it. */
    private static final class Sight {
        private int[] beside = new int[PLACES];
        private int places = 0;
        private int caves = 0;
        private int meadows = 0;
        private int crumbs = 0;
        private int stones = 0;
        private int knots = 0;
        private final int[] trail = new int[PLACES];
        private int steps = 0;

        void look(Wood wood) {
            beside = wood.beside;
            places = wood.places;
            caves = wood.ofKind[CAVE];
            meadows = wood.ofKind[MEADOW];
            crumbs = 0;
            stones = 0;
            knots = 0;
            for (int x = 0; x < places; x++) {
                int seen = wood.seenAt(x);
                crumbs |= (seen & 1) << x;
                stones |= (seen >> 1 & 1) << x;
                knots |= (seen >> 2 & 1) << x;
            }
        }

        boolean findsHome(Wood wood) {
            look(wood);
            return follow(wood.standing(), stones, knots, crumbs);
        }

        /** Follows from a PLACE by these sets; trail and steps tell by which way. */
        private boolean follow(int from, int stoneSet, int knotSet, int crumbSet) {
            int standing = from;
            int untrodden = ~(1 << from);
            trail[0] = from;
            steps = 0;
            // No PLACE is trodden twice, so that a trail never has more than there are.
            for (int i = 1; i < PLACES && standing != HOME; i++) {
                int around = beside[standing] & untrodden;
                int choice = around & 1 << HOME;
                if (choice == 0) {
                    choice = around & stoneSet;
                }
                if (choice == 0) {
                    choice = around & knotSet;
                }
                if (choice == 0) {
                    choice = around & crumbSet;
                }
                if (choice == 0) {
                    return false;
                }
                standing = least(choice);
                untrodden &= ~(1 << standing);
                trail[i] = standing;
                steps = i;
            }
            return standing == HOME;
        }

        /** The STONES that are SEEN if some more lie on a set of PLACES. */
        private int stonesWith(int set) {
            return stones | set & ~caves;
        }

        /** The PLACES on which one STONE more lets them find home. */
        int homeWithStone(Wood wood) {
            look(wood);
            int set = 0;
            for (int x = 0; x < places; x++) {
                if (follow(wood.standing(), stonesWith(1 << x), knots, crumbs)) {
                    set |= 1 << x;
                }
            }
            return set;
        }

        /** The least of the smallest sets of STONES on offered PLACES that bring them home; NONE: none does. */
        int fewestStones(int from, int offered, boolean oneGone) {
            int chosen = NONE;
            int fewest = PLACES + 1;
            for (int set = 0; set <= offered; set++) {
                if ((set & ~offered) == 0 && Integer.bitCount(set) < fewest && leadsHome(from, set, oneGone)) {
                    chosen = set;
                    fewest = Integer.bitCount(set);
                }
            }
            return chosen;
        }

        private boolean leadsHome(int from, int set, boolean oneGone) {
            int stoneSet = stonesWith(set);
            if (!follow(from, stoneSet, knots, crumbs)) {
                return false;
            }
            for (int x = 0; x < places && oneGone; x++) {
                int left = ~(1 << x);
                // What others tie in a MEADOW is SEEN there even when every MARK is gone.
                if (!follow(from, stoneSet & left, knots & left | meadows, crumbs & left)) {
                    return false;
                }
            }
            return true;
        }

        /** In how many ways the CRUMBS that are SEEN can be eaten or not; others change nothing. */
        int cases() {
            return 1 << Integer.bitCount(crumbs);
        }

        /** In how many of the cases they find home, with one STONE more on each PLACE of a set. */
        int luckyCases(int from, int set) {
            int stoneSet = stonesWith(set);
            int number = cases();
            int lucky = 0;
            int left = crumbs;
            for (int i = 0; i < number; i++) {
                if (follow(from, stoneSet, knots, left)) {
                    lucky++;
                }
                left = left - 1 & crumbs;
            }
            return lucky;
        }
    }

    /** Counts the ways by PATHS from HOME to where the children are. */
    private static final class Walks {
        private int[] numbers = new int[PLACES];
        private int[] longer = new int[PLACES];
        /** The PLACE behind HOME on the first of the ways counted last; NONE: there is none. */
        private int firstStep = NONE;

        /** Ways of n steps that have only PLACES of a set behind the first one. */
        int numberOf(Wood wood, int n, int allowed) {
            for (int x = 0; x < PLACES; x++) {
                numbers[x] = x == wood.standing() ? 1 : 0;
            }
            firstStep = NONE;
            for (int k = 0; k < n; k++) {
                firstStep = leastOpen(wood.beside[HOME] & allowed);
                lengthen(wood, allowed);
            }
            return numbers[HOME];
        }

        /** The least PLACE of a set from which a way counted so far goes. */
        private int leastOpen(int set) {
            for (int x = 0; x < PLACES; x++) {
                if ((set >> x & 1) == 1 && numbers[x] > 0) {
                    return x;
                }
            }
            return NONE;
        }

        private void lengthen(Wood wood, int allowed) {
            for (int x = 0; x < wood.places; x++) {
                int next = wood.beside[x] & allowed;
                int sum = 0;
                for (int y = 0; y < wood.places; y++) {
                    if ((next >> y & 1) == 1) {
                        sum += numbers[y];
                    }
                }
                longer[x] = sum;
            }
            System.arraycopy(longer, 0, numbers, 0, PLACES);
        }

        /** The PLACES that are on each of the ways; 0 if there is no way. */
        int commonPlaces(Wood wood, int n, int allowed) {
            if (numberOf(wood, n, allowed) == 0) {
                return 0;
            }
            int ends = 1 << HOME | 1 << wood.standing();
            int common = ends;
            for (int x = 0; x < wood.places; x++) {
                int only = 1 << x;
                if ((ends & only) == 0 && numberOf(wood, n, allowed & ~only) == 0) {
                    common |= only;
                }
            }
            return common;
        }
    }
}
