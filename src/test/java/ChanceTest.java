/** Promises 35, 36 (and 43, 44 with them): chances. */
public final class ChanceTest {
    private static final int STATE = CrumbWood.STATE;

    public static void main(String[] args) {
        odds();
        best();
        CrumbWood none = new CrumbWood();
        Due.refused("35 odds(), no PLACES", none, () -> none.odds(), STATE);
        Due.refused("36 best(), no PLACES", none, () -> none.best(), STATE);
        Due.end();
    }

    private static void odds(String call, CrumbWood x, long upper, long lower) {
        long digest = x.digest();
        Due.is(call, x.odds(), 1);
        Due.chances(call, x, upper, lower);
        Due.is(call + " aside", x.digest(), digest);
    }

    private static void odds() {
        CrumbWood x = Due.wood("ppppp-01-12-23-34k000");
        Due.chances("43, 44 before", x, 0, 1);
        odds("35 at HOME", x, 1, 1);
        Due.lead(x, 1, 2, 3, 4);
        odds("35 lost", x, 0, 1);
        x.fool(3, 0);
        x.fool(2, 0);
        x.fool(1, 0);
        odds("35 three PLACES", x, 1, 8);
        x.fool(1, 0);
        odds("35 two CRUMBS on a PLACE go together", x, 1, 8);
        x.fool(0, 0);
        odds("35 a CRUMB that matters not", x, 1, 8);
        x.fool(2, 1);
        odds("35 a STONE beside a CRUMB", x, 1, 4);
        x.path(1, 3, 1);
        odds("35 a second way", x, 1, 4);
        x.take(2, 1);
        odds("35 a second way by CRUMBS", x, 1, 4);
        // 1 or 2 leads home, 3 leads astray, but only if neither is there
        CrumbWood y = Due.wood("ppppp-01-02-14-24-34k000");
        Due.lead(y, 1, 4);
        y.fool(1, 0);
        y.fool(2, 0);
        y.fool(3, 0);
        odds("35 either of two", y, 3, 4);
        y.fool(3, 2);
        odds("35 astray by a KNOT", y, 0, 1);
        y.take(3, 2);
        y.fool(2, 2);
        odds("35 by a KNOT for sure", y, 1, 1);
        CrumbWood hidden = Due.wood("ptp-01-12k000");
        Due.lead(hidden, 1, 2);
        hidden.fool(1, 0);
        odds("35 hidden in a THICKET", hidden, 0, 1);
        CrumbWood far = Due.wood("pppppppp-01-12-23-34-45-56-67k000");
        Due.lead(far, 1, 2, 3, 4, 5, 6, 7);
        for (int i = 0; i < 8; i++) {
            far.fool(i, 0);
        }
        odds("35 all PLACES", far, 1, 64);
    }

    private static void best() {
        CrumbWood x = Due.wood("ppppp-01-12-23-34k000");
        Due.is("36 at HOME", x.best(), 0);
        Due.chances("36 at HOME", x, 1, 1);
        Due.lead(x, 1, 2, 3, 4);
        Due.is("36 no chance anyhow", x.best(), 0);
        Due.chances("36 no chance anyhow", x, 0, 1);
        x.fool(3, 0);
        x.fool(2, 1);
        x.fool(1, 0);
        Due.is("36 the first of two", x.best(), 1);
        Due.chances("36 the first of two", x, 1, 2);
        x.take(1, 0);
        Due.is("36 the one that is needed", x.best(), 1);
        Due.chances("36 the one that is needed", x, 1, 2);
        x.fool(1, 2);
        Due.is("36 sure", x.best(), 3);
        Due.chances("36 sure", x, 1, 1);
        Due.is("36 aside", x.count(5), 1);
        CrumbWood cave = Due.wood("pccp-01-12-23k000");
        Due.lead(cave, 1, 2, 3);
        Due.is("36 in CAVES", cave.best(), 0);
        Due.chances("36 in CAVES", cave, 0, 1);
    }
}
