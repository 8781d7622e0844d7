import java.math.BigInteger;
import java.util.ArrayList;
import java.util.Arrays;
import java.util.Collections;
import java.util.HashSet;
import java.util.List;
import java.util.Set;
import java.util.TreeSet;
import java.util.regex.Matcher;
import java.util.regex.Pattern;

/**
 * The document told a second time, as plainly as the Java library allows, to compare CrumbWood with.
 * It shares no code and no way of working with it: lists and sets, and every way tried out.
 */
final class PlainWood {
    private static final int BAD = -1, FULL = -2, FINDING = -3, STATE = -4, NONE = -9;
    private static final String LETTERS = "pgtbmc";

    /** One WOOD as it stands at a time. */
    private static final class Scene {
        String kinds = "";
        final Set<Set<Integer>> paths = new HashSet<>();
        final List<Integer> birds = new ArrayList<>();
        final List<int[]> marks = new ArrayList<>();
        final List<Integer> washed = new ArrayList<>();
        int[] pockets = new int[3];
        final List<Integer> led = new ArrayList<>();

        Scene twin() {
            Scene twin = new Scene();
            twin.kinds = kinds;
            twin.paths.addAll(paths);
            twin.birds.addAll(birds);
            for (int[] lie : marks) {
                twin.marks.add(lie.clone());
            }
            twin.washed.addAll(washed);
            twin.pockets = pockets.clone();
            twin.led.addAll(led);
            return twin;
        }

        int size() {
            return kinds.length();
        }

        char kind(int x) {
            return kinds.charAt(x);
        }

        boolean has(int x) {
            return x >= 0 && x < size();
        }

        List<Integer> beside(int x) {
            List<Integer> list = new ArrayList<>();
            for (int y = 0; y < size(); y++) {
                if (y != x && paths.contains(Set.of(x, y))) {
                    list.add(y);
                }
            }
            return list;
        }

        int here() {
            return led.get(led.size() - 1);
        }

        void put(int x, int m) {
            if (m == 0 && kind(x) == 'b') {
                washed.set(x, washed.get(x) + 1);
            } else {
                marks.get(x)[m]++;
            }
        }

        boolean seen(int x, int m) {
            switch (kind(x)) {
                case 'c':
                    return false;
                case 't':
                    return m == 1 && marks.get(x)[1] > 0;
                case 'm':
                    return m == 2 || marks.get(x)[m] > 0;
                default:
                    return marks.get(x)[m] > 0;
            }
        }

        Set<Integer> eatenFrom(int x) {
            Set<Integer> set = new TreeSet<>();
            set.add(x);
            if (kind(x) == 'g' || kind(x) == 'm') {
                for (int y : beside(x)) {
                    if (kind(y) != 't' && kind(y) != 'c') {
                        set.add(y);
                    }
                }
            }
            return set;
        }

        int flight(int x) {
            List<Integer> list = beside(x);
            for (int y : list) {
                if (y > x) {
                    return y;
                }
            }
            return list.isEmpty() ? x : list.get(0);
        }

        int hour() {
            int eaten = 0;
            for (int i = 0; i < birds.size(); i++) {
                for (int y : eatenFrom(birds.get(i))) {
                    eaten += marks.get(y)[0];
                    marks.get(y)[0] = 0;
                }
                birds.set(i, flight(birds.get(i)));
            }
            return eaten;
        }

        /** The PLACES by which they follow from one; HOME is the last if it is found. */
        List<Integer> follow(int from) {
            List<Integer> trail = new ArrayList<>(List.of(from));
            while (trail.get(trail.size() - 1) != 0) {
                int next = next(trail);
                if (next < 0) {
                    return trail;
                }
                trail.add(next);
            }
            return trail;
        }

        private int next(List<Integer> trail) {
            List<Integer> list = beside(trail.get(trail.size() - 1));
            if (list.contains(0)) {
                return 0;
            }
            list.removeAll(trail);
            for (int m : new int[] {1, 2, 0}) {
                for (int y : list) {
                    if (seen(y, m)) {
                        return y;
                    }
                }
            }
            return -1;
        }

        boolean home(int from) {
            List<Integer> trail = follow(from);
            return trail.get(trail.size() - 1) == 0;
        }

        int lie(int m) {
            int sum = 0;
            for (int[] lie : marks) {
                sum += lie[m];
            }
            return sum;
        }
    }

    private final List<List<Integer>> rows = new ArrayList<>(Collections.nCopies(6, null));
    private final List<List<Integer>> texts = new ArrayList<>(Collections.nCopies(4, null));
    private final List<Scene> kept = new ArrayList<>(Collections.nCopies(3, null));
    private Scene now = new Scene();
    private int asked = 0;
    private BigInteger upper = BigInteger.ZERO;
    private BigInteger lower = BigInteger.ONE;
    private final List<Integer> found = new ArrayList<>();

    private int find(int f) {
        found.add(f);
        return FINDING;
    }

    private int tell(int v) {
        asked = v;
        return 1;
    }

    private static boolean in(int v, int low, int high) {
        return low <= v && v <= high;
    }

    private static int bits(Iterable<Integer> set) {
        int bits = 0;
        for (int x : set) {
            bits |= 1 << x;
        }
        return bits;
    }

    int row(int r, int n) {
        if (!in(r, 0, 5) || n > 40) {
            return BAD;
        }
        if (n < 0) {
            return find(5);
        }
        rows.set(r, new ArrayList<>(Collections.nCopies(n, 0)));
        return n;
    }

    int lay(int r, int i, int v) {
        if (!in(r, 0, 5)) {
            return BAD;
        }
        if (rows.get(r) == null) {
            return find(1);
        }
        if (!in(i, 0, rows.get(r).size() - 1)) {
            return find(2);
        }
        return tell(rows.get(r).set(i, v));
    }

    int at(int r, int i) {
        if (!in(r, 0, 5)) {
            return BAD;
        }
        if (rows.get(r) == null) {
            return find(1);
        }
        if (!in(i, 0, rows.get(r).size() - 1)) {
            return find(2);
        }
        return tell(rows.get(r).get(i));
    }

    int tear(int r) {
        if (!in(r, 0, 5)) {
            return BAD;
        }
        if (rows.get(r) == null) {
            return find(1);
        }
        rows.set(r, null);
        return 1;
    }

    int copy(int r, int i, int to, int j, int n) {
        if (!in(r, 0, 5) || !in(to, 0, 5)) {
            return BAD;
        }
        if (n < 0) {
            return find(5);
        }
        if (rows.get(r) == null || rows.get(to) == null) {
            return find(1);
        }
        if (i < 0 || j < 0 || (long) i + n > rows.get(r).size() || (long) j + n > rows.get(to).size()) {
            return find(2);
        }
        List<Integer> taken = new ArrayList<>(rows.get(r).subList(i, i + n));
        for (int k = 0; k < n; k++) {
            rows.get(to).set(j + k, taken.get(k));
        }
        return 1;
    }

    int mean(int r) {
        if (!in(r, 0, 5)) {
            return BAD;
        }
        if (rows.get(r) == null) {
            return find(1);
        }
        if (rows.get(r).isEmpty()) {
            return find(4);
        }
        BigInteger sum = BigInteger.ZERO;
        for (int v : rows.get(r)) {
            sum = sum.add(BigInteger.valueOf(v));
        }
        return tell(sum.divide(BigInteger.valueOf(rows.get(r).size())).intValueExact());
    }

    int text(int t, int n) {
        if (!in(t, 0, 3) || n > 80) {
            return BAD;
        }
        if (n < 0) {
            return find(5);
        }
        texts.set(t, new ArrayList<>(Collections.nCopies(n, 32)));
        return n;
    }

    int put(int t, int i, int v) {
        if (!in(t, 0, 3)) {
            return BAD;
        }
        if (texts.get(t) == null) {
            return find(1);
        }
        if (!in(i, 0, texts.get(t).size() - 1)) {
            return find(2);
        }
        return 1000 + texts.get(t).set(i, (int) (byte) v);
    }

    private String signs(int t) {
        StringBuilder signs = new StringBuilder();
        for (int b : texts.get(t)) {
            signs.append((char) (b & 255));
        }
        return signs.toString();
    }

    /** Whether a text can be the beginning of a WOOD's. */
    private static boolean canBegin(String start) {
        Matcher m = Pattern.compile("( *[pgtbmc])*( *-\\d\\d)*( *v\\d)*( *k\\d\\d\\d)? *(-\\d?|v|k\\d?\\d?)?").matcher(start);
        if (!m.matches()) {
            return false;
        }
        String places = start.replaceAll("[^pgtbmc]", "");
        String rest = start.replaceAll("[ pgtbmc]", "");
        if (places.length() > 8 || !rest.isEmpty() && places.length() < 2) {
            return false;
        }
        return orderKept(rest) && numbersRight(rest, places.length());
    }

    private static boolean orderKept(String rest) {
        return Pattern.matches("(-\\d\\d){0,14}(v\\d){0,4}(k\\d\\d\\d)?", rest)
            || Pattern.matches("(-\\d\\d){0,13}-\\d?", rest)
            || Pattern.matches("(-\\d\\d){0,14}(v\\d){0,3}v", rest)
            || Pattern.matches("(-\\d\\d){0,14}(v\\d){0,4}k\\d?\\d?", rest);
    }

    private static boolean numbersRight(String rest, int places) {
        Set<Set<Integer>> paths = new HashSet<>();
        for (int i = 0; i < rest.length(); i++) {
            if (rest.charAt(i) == 'k') {
                return true;
            }
            if (rest.charAt(i) == '-' || rest.charAt(i) == 'v') {
                continue;
            }
            int y = rest.charAt(i) - '0';
            if (y >= places) {
                return false;
            }
            if (i > 1 && rest.charAt(i - 2) == '-') {
                int x = rest.charAt(i - 1) - '0';
                if (x == y || !paths.add(Set.of(x, y))) {
                    return false;
                }
            }
        }
        return true;
    }

    private int faultOf(String signs) {
        for (int n = 1; n <= signs.length(); n++) {
            if (!canBegin(signs.substring(0, n))) {
                return n - 1;
            }
        }
        return Pattern.matches(".*k\\d\\d\\d *", signs) ? NONE : signs.length();
    }

    int fault(int t) {
        if (!in(t, 0, 3)) {
            return BAD;
        }
        return texts.get(t) == null ? find(1) : faultOf(signs(t));
    }

    int wood(int t) {
        if (!in(t, 0, 3)) {
            return BAD;
        }
        if (texts.get(t) == null) {
            return find(1);
        }
        String signs = signs(t);
        if (faultOf(signs) != NONE) {
            return STATE;
        }
        now = new Scene();
        now.kinds = signs.replaceAll("[^pgtbmc]", "");
        for (int x = 0; x < now.size(); x++) {
            now.marks.add(new int[3]);
            now.washed.add(0);
        }
        Matcher item = Pattern.compile("-(\\d)(\\d)|v(\\d)|k(\\d)(\\d)(\\d)").matcher(signs);
        while (item.find()) {
            if (item.group(1) != null) {
                now.paths.add(Set.of(Integer.parseInt(item.group(1)), Integer.parseInt(item.group(2))));
            } else if (item.group(3) != null) {
                now.birds.add(Integer.parseInt(item.group(3)));
            } else {
                for (int m = 0; m < 3; m++) {
                    now.pockets[m] = Integer.parseInt(item.group(4 + m));
                }
            }
        }
        now.led.add(0);
        Collections.fill(kept, null);
        return now.size();
    }

    private int fact(int x, int what) {
        if (what == 0) {
            return LETTERS.indexOf(now.kind(x));
        }
        if (what == 1) {
            return bits(now.beside(x));
        }
        if (what < 5) {
            return now.marks.get(x)[what - 2];
        }
        return (now.seen(x, 0) ? 1 : 0) + (now.seen(x, 1) ? 2 : 0) + (now.seen(x, 2) ? 4 : 0);
    }

    int place(int x, int what) {
        return !now.has(x) || !in(what, 0, 5) ? BAD : tell(fact(x, what));
    }

    int mark(int x, int kind) {
        if (!now.has(x) || !in(kind, 1, 5)) {
            return BAD;
        }
        String fits = new String[] {"", "gm", "tc", "b", "m", "c"}[kind];
        if (fits.indexOf(now.kind(x)) < 0) {
            return find(3);
        }
        int sum = 0;
        switch (kind) {
            case 1:
                for (int y : now.eatenFrom(x)) {
                    sum += now.marks.get(y)[0];
                }
                return sum;
            case 2:
                for (int m = 0; m < 3; m++) {
                    sum += now.seen(x, m) ? 0 : now.marks.get(x)[m];
                }
                return sum;
            case 3:
                return now.washed.get(x);
            case 4:
                return now.marks.get(x)[2];
            default:
                for (int y : now.beside(x)) {
                    sum += "tc".indexOf(now.kind(y)) >= 0 ? 1 : 0;
                }
                return sum;
        }
    }

    int path(int x, int y, int is) {
        if (!now.has(x) || !now.has(y) || x == y || !in(is, 0, 1)) {
            return BAD;
        }
        boolean changed = is == 1 ? now.paths.add(Set.of(x, y)) : now.paths.remove(Set.of(x, y));
        return changed ? 1 - is : is;
    }

    int bird(int i) {
        if (!in(i, 0, now.birds.size() - 1)) {
            return BAD;
        }
        asked = now.flight(now.birds.get(i));
        return now.birds.get(i);
    }

    int pocket(int m) {
        return in(m, 0, 2) ? now.pockets[m] : BAD;
    }

    int lead(int x) {
        if (!now.has(x)) {
            return BAD;
        }
        if (!now.beside(now.here()).contains(x)) {
            return STATE;
        }
        if (now.led.size() == 31) {
            return FULL;
        }
        now.led.add(x);
        return now.led.size() - 1;
    }

    int drop(int m) {
        if (!in(m, 0, 2)) {
            return BAD;
        }
        if (now.pockets[m] == 0) {
            return STATE;
        }
        now.put(now.here(), m);
        return --now.pockets[m];
    }

    int fool(int x, int m) {
        if (!now.has(x) || !in(m, 0, 2)) {
            return BAD;
        }
        if (now.marks.get(x)[m] >= 20) {
            return FULL;
        }
        now.put(x, m);
        return now.marks.get(x)[m];
    }

    int take(int x, int m) {
        if (!now.has(x) || !in(m, 0, 2)) {
            return BAD;
        }
        int taken = now.marks.get(x)[m];
        now.marks.get(x)[m] = 0;
        return taken;
    }

    int hours(int n) {
        if (!in(n, 0, 40)) {
            return BAD;
        }
        if (now.size() == 0) {
            return STATE;
        }
        int eaten = 0;
        for (int h = 0; h < n; h++) {
            eaten += now.hour();
        }
        return eaten;
    }

    int here() {
        if (now.size() == 0) {
            return STATE;
        }
        asked = now.led.size() - 1;
        return now.here();
    }

    int led(int r) {
        if (!in(r, 0, 5)) {
            return BAD;
        }
        if (now.size() == 0) {
            return STATE;
        }
        rows.set(r, new ArrayList<>(now.led));
        return now.led.size();
    }

    int keep(int k) {
        if (!in(k, 0, 2)) {
            return BAD;
        }
        if (now.size() == 0) {
            return STATE;
        }
        kept.set(k, now.twin());
        return now.led.size() - 1;
    }

    int on(int k) {
        if (!in(k, 0, 2)) {
            return BAD;
        }
        if (kept.get(k) == null) {
            return find(1);
        }
        now = kept.get(k).twin();
        return now.led.size() - 1;
    }

    int home() {
        if (now.size() == 0) {
            return STATE;
        }
        asked = now.follow(now.here()).size() - 1;
        return now.home(now.here()) ? 1 : 0;
    }

    int back(int r) {
        if (!in(r, 0, 5)) {
            return BAD;
        }
        if (now.size() == 0) {
            return STATE;
        }
        rows.set(r, now.follow(now.here()));
        return rows.get(r).size();
    }

    int wrong() {
        if (now.size() == 0) {
            return STATE;
        }
        List<Integer> right = new ArrayList<>(now.led);
        Collections.reverse(right);
        List<Integer> gone = now.follow(now.here());
        for (int i = 1; i < right.size() && i < gone.size(); i++) {
            if (!right.get(i).equals(gone.get(i))) {
                return i - 1;
            }
        }
        return NONE;
    }

    int waits() {
        if (now.size() == 0) {
            return STATE;
        }
        Scene later = now.twin();
        for (int h = 0; h <= 60; h++) {
            if (!later.home(later.here())) {
                return h;
            }
            later.hour();
        }
        return NONE;
    }

    int nearest() {
        if (now.size() == 0) {
            return STATE;
        }
        List<List<Integer>> ways = List.of(List.of(now.here()));
        for (int n = 0; n < 8; n++) {
            int number = 0;
            for (List<Integer> way : ways) {
                number += way.get(way.size() - 1) == 0 ? 1 : 0;
            }
            if (number > 0) {
                asked = number;
                return n;
            }
            ways = lengthened(ways, true);
        }
        return NONE;
    }

    private List<List<Integer>> lengthened(List<List<Integer>> ways, boolean anew) {
        List<List<Integer>> longer = new ArrayList<>();
        for (List<Integer> way : ways) {
            for (int y : now.beside(way.get(way.size() - 1))) {
                if (!anew || !way.contains(y)) {
                    List<Integer> on = new ArrayList<>(way);
                    on.add(y);
                    longer.add(on);
                }
            }
        }
        return longer;
    }

    int fewest(int r, int n) {
        return plan(r, n, false);
    }

    int surest(int r, int n) {
        return plan(r, n, true);
    }

    private int plan(int r, int n, boolean sure) {
        if (!in(r, 0, 5) || !in(n, 0, 40)) {
            return BAD;
        }
        if (now.size() == 0) {
            return STATE;
        }
        if (rows.get(r) == null) {
            return find(1);
        }
        if (rows.get(r).size() > 8) {
            return find(5);
        }
        List<Integer> way = new ArrayList<>(List.of(now.here()));
        for (int x : rows.get(r)) {
            if (!now.has(x) || !now.beside(way.get(way.size() - 1)).contains(x)) {
                return find(3);
            }
            way.add(x);
        }
        Scene later = now.twin();
        for (int h = 0; h < n; h++) {
            later.hour();
        }
        for (int size = 0; size <= 8; size++) {
            for (int set = 0; set < 256; set++) {
                if (Integer.bitCount(set) == size && (set & ~bits(way)) == 0
                    && holds(later, set, way.get(way.size() - 1), sure)) {
                    asked = set;
                    return size;
                }
            }
        }
        return NONE;
    }

    private static boolean holds(Scene later, int set, int from, boolean sure) {
        Scene planned = later.twin();
        for (int x = 0; x < planned.size(); x++) {
            planned.marks.get(x)[1] += set >> x & 1;
        }
        boolean good = planned.home(from);
        for (int x = 0; sure && x < planned.size(); x++) {
            Scene gone = planned.twin();
            Arrays.fill(gone.marks.get(x), 0);
            good = good && gone.home(from);
        }
        return good;
    }

    private int changedByStone() {
        int set = 0;
        for (int x = 0; x < now.size(); x++) {
            Scene other = now.twin();
            other.put(x, 1);
            if (other.home(now.here()) != now.home(now.here())) {
                set |= 1 << x;
            }
        }
        return set;
    }

    int astray() {
        if (now.size() == 0) {
            return STATE;
        }
        return now.home(now.here()) ? changedByStone() : 0;
    }

    int helps() {
        if (now.size() == 0) {
            return STATE;
        }
        return now.home(now.here()) ? 0 : changedByStone();
    }

    /** Of 256 alike cases, each PLACE's CRUMBS eaten or not, how many lead home. */
    private static int lucky(Scene scene) {
        int lucky = 0;
        for (int eaten = 0; eaten < 256; eaten++) {
            Scene other = scene.twin();
            for (int x = 0; x < other.size(); x++) {
                if ((eaten >> x & 1) == 1) {
                    other.marks.get(x)[0] = 0;
                }
            }
            lucky += other.home(other.here()) ? 1 : 0;
        }
        return lucky;
    }

    private void chances(int lucky) {
        BigInteger up = BigInteger.valueOf(lucky);
        BigInteger low = BigInteger.valueOf(256);
        BigInteger shared = up.gcd(low);
        upper = up.divide(shared);
        lower = low.divide(shared);
    }

    int odds() {
        if (now.size() == 0) {
            return STATE;
        }
        chances(lucky(now));
        return 1;
    }

    int best() {
        if (now.size() == 0) {
            return STATE;
        }
        List<Integer> all = new ArrayList<>();
        for (int x = 0; x < now.size(); x++) {
            Scene other = now.twin();
            other.put(x, 1);
            all.add(lucky(other));
        }
        chances(Collections.max(all));
        return all.indexOf(Collections.max(all));
    }

    private List<List<Integer>> waysOf(int n) {
        List<List<Integer>> ways = List.of(List.of(0));
        for (int i = 0; i < n; i++) {
            List<List<Integer>> longer = lengthened(ways, false);
            longer.removeIf(way -> Arrays.stream(now.marks.get(way.get(way.size() - 1))).sum() == 0);
            ways = longer;
        }
        List<List<Integer>> right = new ArrayList<>(ways);
        right.removeIf(way -> way.get(way.size() - 1) != now.here());
        return right;
    }

    int ways(int n) {
        if (!in(n, 0, 8)) {
            return BAD;
        }
        if (now.size() == 0) {
            return STATE;
        }
        List<List<Integer>> ways = waysOf(n);
        asked = ways.isEmpty() || n == 0 ? NONE : ways.get(0).get(1);
        return ways.size();
    }

    int sure(int n) {
        if (!in(n, 0, 8)) {
            return BAD;
        }
        if (now.size() == 0) {
            return STATE;
        }
        List<List<Integer>> ways = waysOf(n);
        int common = ways.isEmpty() ? 0 : 255;
        for (List<Integer> way : ways) {
            common &= bits(way);
        }
        return common;
    }

    int was(int i, int n) {
        if (!in(i, 0, now.birds.size() - 1) || !in(n, 0, 40)) {
            return BAD;
        }
        Set<Integer> set = new TreeSet<>();
        for (int x = 0; x < now.size(); x++) {
            int y = x;
            for (int h = 0; h < n; h++) {
                y = now.flight(y);
            }
            if (y == now.birds.get(i)) {
                set.add(x);
            }
        }
        return bits(set);
    }

    int bare() {
        if (now.size() == 0) {
            return STATE;
        }
        Scene later = now.twin();
        for (int h = 0; h <= 60; h++) {
            if (later.lie(0) == 0) {
                return h;
            }
            later.hour();
        }
        return NONE;
    }

    int lots(int n, int seed) {
        if (!in(n, 1, 20) || !in(seed, 1, 2147483646)) {
            return BAD;
        }
        if (now.size() == 0) {
            return STATE;
        }
        if (now.led.size() - 1 + n > 30) {
            return FULL;
        }
        BigInteger lot = BigInteger.valueOf(seed);
        for (int i = 0; i < n; i++) {
            List<Integer> list = now.beside(now.here());
            if (list.isEmpty()) {
                return i;
            }
            lot = lot.multiply(BigInteger.valueOf(48271)).mod(BigInteger.valueOf(2147483647));
            now.led.add(list.get(lot.mod(BigInteger.valueOf(list.size())).intValue()));
            if (lot.divide(BigInteger.valueOf(64)).testBit(0) && now.pockets[0] > 0) {
                now.pockets[0]--;
                now.put(now.here(), 0);
            }
        }
        return n;
    }

    int asked() {
        return asked;
    }

    long upper() {
        return upper.longValueExact();
    }

    long lower() {
        return lower.longValueExact();
    }

    int count(int what) {
        switch (what) {
            case 0:
                return now.size();
            case 1:
                return now.paths.size();
            case 2:
                return now.birds.size();
            case 3:
                return Math.max(now.led.size() - 1, 0);
            case 4:
            case 5:
            case 6:
                return now.lie(what - 4);
            case 7:
                return 6 - Collections.frequency(rows, null);
            case 8:
                return 4 - Collections.frequency(texts, null);
            case 9:
                return 3 - Collections.frequency(kept, null);
            case 10:
                return now.kinds.replaceAll("[^tc]", "").length();
            default:
                return BAD;
        }
    }

    int finding() {
        return found.isEmpty() ? 0 : found.get(found.size() - 1);
    }

    int findings(int f) {
        return in(f, 1, 5) ? Collections.frequency(found, f) : BAD;
    }

    long digest() {
        List<Integer> all = new ArrayList<>();
        for (int what = 0; what <= 10; what++) {
            all.add(count(what));
        }
        for (int m = 0; m < 3; m++) {
            all.add(now.pockets[m]);
        }
        for (int x = 0; x < now.size(); x++) {
            for (int what = 0; what <= 5; what++) {
                all.add(fact(x, what));
            }
        }
        all.addAll(now.birds);
        all.addAll(now.led);
        for (Scene scene : kept) {
            all.add(scene == null ? -1 : scene.led.size() - 1);
        }
        List<List<Integer>> strips = new ArrayList<>(rows);
        strips.addAll(texts);
        for (List<Integer> strip : strips) {
            all.add(strip == null ? -1 : strip.size());
            all.addAll(strip == null ? List.of() : strip);
        }
        long h = 17;
        for (int v : all) {
            h = 31 * h + v;
        }
        return h;
    }
}
