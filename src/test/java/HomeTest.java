/** Promises 26 to 30: following home. */
public final class HomeTest {
    private static final int BAD = CrumbWood.BAD, STATE = CrumbWood.STATE, NONE = CrumbWood.NONE;

    public static void main(String[] args) {
        home();
        choices();
        back();
        wrong();
        waits();
        nearest();
        withoutPlaces();
        Due.end();
    }

    private static void home() {
        CrumbWood x = Due.wood("pppp-01-12-23k000");
        Due.both("26 at HOME", x, x.home(), 1, 0);
        Due.lead(x, 1);
        Due.both("26 beside HOME", x, x.home(), 1, 1);
        Due.lead(x, 2);
        Due.both("26 no MARK", x, x.home(), 0, 0);
        x.fool(1, 0);
        Due.both("26 by a CRUMB", x, x.home(), 1, 2);
        Due.lead(x, 3);
        Due.both("26 lost at once", x, x.home(), 0, 0);
        x.fool(2, 2);
        Due.both("26 by KNOT and CRUMB", x, x.home(), 1, 3);
        x.take(1, 0);
        Due.both("26 lost behind a STEP", x, x.home(), 0, 1);
        Due.is("26 aside", x.here(), 3);
        CrumbWood round = Due.wood("pppp-12-23-31k000");
        round.path(0, 1, 1);
        Due.lead(round, 1);
        round.path(0, 1, 0);
        round.fool(1, 1);
        round.fool(2, 1);
        round.fool(3, 1);
        Due.both("26 trodden ones are left", round, round.home(), 0, 2);
    }

    /** Which of two MARKS beside is chosen, in PLACES 1 and 2, from 3; HOME is beside both. */
    private static void chosen(String kinds, int m1, int m2, int want) {
        CrumbWood x = Due.wood("p" + kinds + "p-01-02-13-23k000");
        Due.lead(x, 1, 3);
        if (m1 >= 0) {
            x.fool(1, m1);
        }
        if (m2 >= 0) {
            x.fool(2, m2);
        }
        String call = "27 of " + kinds + " with " + m1 + ", " + m2;
        if (want == NONE) {
            Due.is(call, x.back(0), 1);
        } else {
            Due.is(call, x.back(0), 3);
            Due.cells(call, x, 0, 3, want, 0);
        }
    }

    private static void choices() {
        chosen("pp", 0, 0, 1);
        chosen("pp", 1, 1, 1);
        chosen("pp", 2, 2, 1);
        chosen("pp", 0, 1, 2);
        chosen("pp", 0, 2, 2);
        chosen("pp", 2, 1, 2);
        chosen("pp", 1, 2, 1);
        chosen("pp", -1, 0, 2);
        chosen("pp", -1, -1, NONE);
        chosen("tp", 0, 0, 2);
        chosen("tp", 2, 0, 2);
        chosen("tp", 1, 2, 1);
        chosen("cp", 1, 0, 2);
        chosen("cc", 1, 1, NONE);
        chosen("pm", 0, -1, 2);
        chosen("pm", 2, -1, 1);
        chosen("mm", -1, -1, 1);
        chosen("bp", 0, -1, NONE);
        chosen("bp", 2, 0, 1);
    }

    private static void back() {
        CrumbWood x = Due.wood("pppp-01-12-23k000");
        Due.is("27 at HOME", x.back(5), 1);
        Due.cells("27 at HOME", x, 5, 0);
        Due.lead(x, 1, 2, 3);
        x.fool(2, 1);
        x.row(0, 40);
        Due.is("27 lost", x.back(0), 2);
        Due.cells("27 lost", x, 0, 3, 2);
        Due.refused("27 back(6)", x, () -> x.back(6), BAD);
        Due.refused("27 back(-1)", x, () -> x.back(-1), BAD);
        CrumbWood far = Due.wood("pppppppp-01-12-23-34-45-56-67k000");
        Due.lead(far, 1, 2, 3, 4, 5, 6, 7);
        for (int i = 0; i < 8; i++) {
            far.fool(i, 2);
        }
        Due.is("27 all PLACES", far.back(1), 8);
        Due.cells("27 all PLACES", far, 1, 7, 6, 5, 4, 3, 2, 1, 0);
        Due.both("26 all PLACES", far, far.home(), 1, 7);
    }

    private static void wrong() {
        CrumbWood x = Due.wood("ppppp-01-12-23-34-14k000");
        Due.is("28 at HOME", x.wrong(), NONE);
        Due.lead(x, 1, 2, 3, 4);
        Due.is("28 lost at once", x.wrong(), NONE);
        x.fool(3, 0);
        Due.is("28 lost, right so far", x.wrong(), NONE);
        x.fool(1, 1);
        Due.is("28 the first STEP", x.wrong(), 0);
        x.take(1, 1);
        x.fool(2, 0);
        x.fool(1, 0);
        x.fool(3, 0);
        Due.is("28 by the least number", x.wrong(), 0);
        x.path(1, 4, 0);
        Due.is("28 right", x.wrong(), NONE);
        x.path(0, 2, 1);
        Due.is("28 a shorter way", x.wrong(), 2);
        x.path(0, 3, 1);
        Due.is("28 shorter still", x.wrong(), 1);
        // led by fewer STEPS than they follow: only as far as both go
        CrumbWood y = Due.wood("pppp-03-31-12-20k000");
        Due.lead(y, 3);
        y.path(0, 3, 0);
        y.path(0, 2, 1);
        y.fool(1, 1);
        y.fool(2, 1);
        Due.is("28 further than LED", y.wrong(), 0);
    }

    private static void waits() {
        CrumbWood x = Due.wood("ppppp-01-12-34v3k000");
        Due.is("29 at HOME", x.waits(), NONE);
        Due.lead(x, 1, 2);
        Due.is("29 lost now", x.waits(), 0);
        x.fool(1, 0);
        Due.is("29 no BIRD comes", x.waits(), NONE);
        x.path(1, 4, 1);
        Due.is("29 a BIRD comes", x.waits(), hoursTill(x));
        long digest = x.digest();
        x.waits();
        Due.is("29 aside", x.digest(), digest);
        CrumbWood one = Due.wood("ppp-01-12v1k000");
        Due.lead(one, 1, 2);
        one.fool(1, 0);
        Due.is("29 in an HOUR", one.waits(), 1);
        one.fool(1, 1);
        Due.is("29 a STONE stays", one.waits(), NONE);
    }

    /** The same by the hours themselves, on a WOOD kept and gone on from. */
    private static int hoursTill(CrumbWood x) {
        x.keep(0);
        int h = 0;
        while (x.home() == 1 && h < 60) {
            x.hours(1);
            h++;
        }
        x.on(0);
        return h;
    }

    private static void nearest() {
        CrumbWood x = Due.wood("ppppp-01-02-13-23-03k000");
        Due.both("30 at HOME", x, x.nearest(), 0, 1);
        Due.lead(x, 1);
        Due.both("30 beside", x, x.nearest(), 1, 1);
        Due.lead(x, 3);
        x.path(0, 3, 0);
        Due.both("30 two ways", x, x.nearest(), 2, 2);
        x.path(3, 4, 1);
        x.path(0, 4, 1);
        Due.both("30 three ways", x, x.nearest(), 2, 3);
        x.path(0, 1, 0);
        x.path(0, 2, 0);
        x.path(0, 4, 0);
        x.here();
        Due.both("30 none", x, x.nearest(), NONE, 2);
        CrumbWood far = Due.wood("pppppppp-01-12-23-34-45-56-67k000");
        Due.lead(far, 1, 2, 3, 4, 5, 6, 7);
        Due.both("30 all PLACES", far, far.nearest(), 7, 1);
    }

    private static void withoutPlaces() {
        CrumbWood x = new CrumbWood();
        Due.refused("26 home(), no PLACES", x, () -> x.home(), STATE);
        Due.refused("27 back(0), no PLACES", x, () -> x.back(0), STATE);
        Due.refused("27 back(6), no PLACES", x, () -> x.back(6), BAD);
        Due.refused("28 wrong(), no PLACES", x, () -> x.wrong(), STATE);
        Due.refused("29 waits(), no PLACES", x, () -> x.waits(), STATE);
        Due.refused("30 nearest(), no PLACES", x, () -> x.nearest(), STATE);
    }
}
