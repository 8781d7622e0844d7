/** Promises 17 to 25: led, dropped, eaten, kept. */
public final class LedTest {
    private static final int BAD = CrumbWood.BAD, FULL = CrumbWood.FULL, STATE = CrumbWood.STATE;
    private static final int NOTHING = 1;

    public static void main(String[] args) {
        lead();
        drop();
        fool();
        take();
        hours();
        here();
        led();
        keepAndOn();
        keptFarOn();
        withoutPlaces();
        Due.end();
    }

    private static void lead() {
        CrumbWood x = Due.wood("ppp-01k000");
        Due.is("17 lead(1)", x.lead(1), 1);
        Due.is("17 lead(0)", x.lead(0), 2);
        Due.refused("17 lead(2), not beside", x, () -> x.lead(2), STATE);
        Due.refused("17 lead(0), there already", x, () -> x.lead(0), STATE);
        Due.refused("17 lead(3)", x, () -> x.lead(3), BAD);
        Due.refused("17 lead(-1)", x, () -> x.lead(-1), BAD);
        for (int i = 3; i <= 30; i++) {
            Due.is("17 STEP " + i, x.lead(i % 2), i);
        }
        Due.refused("17 31 STEPS", x, () -> x.lead(1), FULL);
        Due.refused("17 31 STEPS, not beside", x, () -> x.lead(2), STATE);
        Due.refused("17 31 STEPS, no PLACE", x, () -> x.lead(3), BAD);
    }

    private static void drop() {
        CrumbWood x = Due.wood("pb-01k211");
        Due.is("18 drop(0)", x.drop(0), 1);
        Due.told("18 it lies", x, x.place(0, 2), 1);
        x.lead(1);
        Due.is("18 drop(0) in a BROOK", x.drop(0), 0);
        Due.told("18 it is gone", x, x.place(1, 2), 0);
        Due.is("18 it was washed away", x.mark(1, 3), 1);
        Due.is("18 drop(1)", x.drop(1), 0);
        Due.told("18 the STONE lies", x, x.place(1, 3), 1);
        Due.is("18 drop(2)", x.drop(2), 0);
        Due.told("18 the KNOT lies", x, x.place(1, 4), 1);
        for (int m = 0; m < 3; m++) {
            int mark = m;
            Due.refused("18 drop(" + m + ") none left", x, () -> x.drop(mark), STATE);
        }
        Due.refused("18 drop(3)", x, () -> x.drop(3), BAD);
        Due.refused("18 drop(-1)", x, () -> x.drop(-1), BAD);
    }

    private static void fool() {
        CrumbWood x = Due.wood("pb-01k900");
        for (int i = 1; i <= 20; i++) {
            Due.is("19 fool " + i, x.fool(0, 0), i);
        }
        Due.refused("19 fool 21", x, () -> x.fool(0, 0), FULL);
        Due.is("19 drop on 20", x.drop(0), 8);
        Due.told("19 21 lie", x, x.place(0, 2), 21);
        Due.refused("19 fool 22", x, () -> x.fool(0, 0), FULL);
        Due.is("19 another MARK", x.fool(0, 1), 1);
        Due.is("19 CRUMBS in a BROOK", x.fool(1, 0), 0);
        Due.is("19 KNOTS in a BROOK", x.fool(1, 2), 1);
        Due.is("19 from nowhere", x.pocket(2), 0);
        Due.refused("19 fool(2, 0)", x, () -> x.fool(2, 0), BAD);
        Due.refused("19 fool(-1, 0)", x, () -> x.fool(-1, 0), BAD);
        Due.refused("19 fool(0, 3)", x, () -> x.fool(0, 3), BAD);
        Due.refused("19 fool(0, -1)", x, () -> x.fool(0, -1), BAD);
    }

    private static void take() {
        CrumbWood x = Due.wood("pp-01k300");
        x.drop(0);
        x.fool(0, 0);
        x.fool(0, 1);
        Due.is("20 take(0, 0)", x.take(0, 0), 2);
        Due.is("20 take(0, 0) again", x.take(0, 0), 0);
        Due.told("20 another MARK stays", x, x.place(0, 3), 1);
        Due.is("20 not to the POCKETS", x.pocket(0), 2);
        Due.refused("20 take(2, 0)", x, () -> x.take(2, 0), BAD);
        Due.refused("20 take(-1, 0)", x, () -> x.take(-1, 0), BAD);
        Due.refused("20 take(0, 3)", x, () -> x.take(0, 3), BAD);
        Due.refused("20 take(0, -1)", x, () -> x.take(0, -1), BAD);
    }

    private static void hours() {
        // a BIRD on a plain PLACE eats there alone
        CrumbWood x = Due.wood("ppp-01-12v0k000");
        x.fool(0, 0);
        x.fool(1, 0);
        x.fool(1, 0);
        x.fool(2, 0);
        x.fool(1, 1);
        x.fool(1, 2);
        Due.is("21 no HOUR", x.hours(0), 0);
        Due.is("21 an HOUR", x.hours(1), 1);
        Due.is("21 bird(0)", x.bird(0), 1);
        Due.is("21 two HOURS", x.hours(2), 3);
        Due.is("21 bird(0) then", x.bird(0), 1);
        Due.is("21 STONES stay", x.count(5), 1);
        Due.is("21 KNOTS stay", x.count(6), 1);
        // a BIRD in a GLADE, a MEADOW eats beside it too, but in no THICKET, no CAVE
        for (int kind = 0; kind < 2; kind++) {
            CrumbWood g = Due.wood(kind == 0 ? "pgtcp-01-12-13v1k000" : "pmtcp-01-12-13v1k000");
            for (int i = 0; i < 5; i++) {
                g.fool(i, 0);
            }
            Due.is("21 an HOUR in a GLADE", g.hours(1), 2);
            Due.told("21 a THICKET keeps", g, g.place(2, 2), 1);
            Due.told("21 a CAVE keeps", g, g.place(3, 2), 1);
            Due.told("21 what is not beside stays", g, g.place(4, 2), 1);
            Due.is("21 in the THICKET it is eaten", g.hours(1), 1);
            Due.told("21 a CAVE keeps still", g, g.place(3, 2), 1);
        }
        CrumbWood two = Due.wood("pp-01v0v1k000");
        two.fool(0, 0);
        two.fool(1, 0);
        Due.is("21 two BIRDS", two.hours(1), 2);
        Due.is("21 40 HOURS", two.hours(40), 0);
        Due.refused("21 hours(41)", two, () -> two.hours(41), BAD);
        Due.refused("21 hours(-1)", two, () -> two.hours(-1), BAD);
    }

    private static void here() {
        CrumbWood x = Due.wood("ppp-01-12k000");
        Due.both("22 here()", x, x.here(), 0, 0);
        Due.lead(x, 1, 2);
        Due.both("22 here() led", x, x.here(), 2, 2);
        Due.lead(x, 1);
        Due.both("22 here() led on", x, x.here(), 1, 3);
    }

    private static void led() {
        CrumbWood x = Due.wood("ppp-01-12k000");
        Due.is("23 led(5)", x.led(5), 1);
        Due.cells("23 led(5)", x, 5, 0);
        Due.lead(x, 1, 2, 1);
        x.row(0, 40);
        Due.is("23 led(0)", x.led(0), 4);
        Due.cells("23 led(0)", x, 0, 0, 1, 2, 1);
        Due.refused("23 led(6)", x, () -> x.led(6), BAD);
        Due.refused("23 led(-1)", x, () -> x.led(-1), BAD);
    }

    private static void keepAndOn() {
        CrumbWood x = Due.wood("pgb-01-12v1k333");
        Due.lead(x, 1);
        x.drop(0);
        x.drop(1);
        x.drop(2);
        Due.lead(x, 2);
        x.drop(0);
        long digest = x.digest();
        Due.is("24 keep(0)", x.keep(0), 2);
        Due.is("24 count(9)", x.count(9), 1);
        long kept = x.digest();
        Due.is("24 keeping is in the digest", kept != digest ? 1 : 0, 1);
        Due.lead(x, 1, 0);
        x.drop(0);
        x.fool(2, 1);
        x.take(1, 2);
        x.path(0, 2, 1);
        x.hours(1);
        Due.is("24 keep(2)", x.keep(2), 4);
        Due.is("25 on(0)", x.on(0), 2);
        Due.both("25 here()", x, x.here(), 2, 2);
        x.led(0);
        Due.cells("25 led", x, 0, 0, 1, 2);
        x.tear(0);
        Due.is("25 CRUMBS", x.count(4), 1);
        Due.is("25 STONES", x.count(5), 1);
        Due.is("25 KNOTS", x.count(6), 1);
        Due.is("25 PATHS", x.count(1), 2);
        Due.is("25 pocket(0)", x.pocket(0), 1);
        Due.is("25 bird(0)", x.bird(0), 1);
        Due.is("25 washed away", x.mark(2, 3), 1);
        Due.is("25 kept WOODS stay", x.count(9), 2);
        x.hours(1);
        x.drop(0);
        Due.is("25 on(0) again", x.on(0), 2);
        Due.is("25 again: CRUMBS", x.count(4), 1);
        Due.is("25 on(2)", x.on(2), 4);
        Due.is("25 the other's PATHS", x.count(1), 3);
        x.keep(0);
        Due.is("24 kept over the other", x.on(0), 4);
        Due.found("25 on(1)", x, () -> x.on(1), NOTHING);
        Due.refused("25 on(3)", x, () -> x.on(3), BAD);
        Due.refused("25 on(-1)", x, () -> x.on(-1), BAD);
        Due.refused("24 keep(3)", x, () -> x.keep(3), BAD);
        Due.refused("24 keep(-1)", x, () -> x.keep(-1), BAD);
    }

    private static void keptFarOn() {
        CrumbWood far = Due.wood("pp-01k000");
        for (int i = 1; i <= 29; i++) {
            far.lead(i % 2);
        }
        far.keep(1);
        far.lead(0);
        far.keep(2);
        far.on(1);
        Due.both("25 29 STEPS", far, far.here(), 1, 29);
        Due.is("25 on to 30 STEPS", far.on(2), 30);
        Due.both("25 30 STEPS", far, far.here(), 0, 30);
    }

    private static void withoutPlaces() {
        CrumbWood x = new CrumbWood();
        Due.refused("17 lead(0), no PLACES", x, () -> x.lead(0), BAD);
        Due.refused("18 drop(0), no PLACES", x, () -> x.drop(0), STATE);
        Due.refused("19 fool(0, 0), no PLACES", x, () -> x.fool(0, 0), BAD);
        Due.refused("20 take(0, 0), no PLACES", x, () -> x.take(0, 0), BAD);
        Due.refused("21 hours(0), no PLACES", x, () -> x.hours(0), STATE);
        Due.refused("21 hours(41), no PLACES", x, () -> x.hours(41), BAD);
        Due.refused("22 here(), no PLACES", x, () -> x.here(), STATE);
        Due.refused("23 led(0), no PLACES", x, () -> x.led(0), STATE);
        Due.refused("23 led(6), no PLACES", x, () -> x.led(6), BAD);
        Due.refused("24 keep(0), no PLACES", x, () -> x.keep(0), STATE);
        Due.refused("24 keep(3), no PLACES", x, () -> x.keep(3), BAD);
    }
}
