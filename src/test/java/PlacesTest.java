/** Promises 12 to 16: places, what they tell, paths, birds, pockets. */
public final class PlacesTest {
    private static final int BAD = CrumbWood.BAD;
    private static final int UNLIKE = 3;

    public static void main(String[] args) {
        place();
        seen();
        mark();
        path();
        bird();
        pocket();
        Due.end();
    }

    private static void place() {
        CrumbWood x = Due.wood("pgtbmc-01-12-25k999");
        for (int i = 0; i < 6; i++) {
            Due.told("12 kind of " + i, x, x.place(i, 0), i);
        }
        Due.told("12 beside 0", x, x.place(0, 1), 2);
        Due.told("12 beside 1", x, x.place(1, 1), 5);
        Due.told("12 beside 2", x, x.place(2, 1), 34);
        Due.told("12 beside 3", x, x.place(3, 1), 0);
        x.fool(1, 0);
        x.fool(1, 1);
        x.fool(1, 1);
        x.fool(1, 2);
        x.fool(1, 2);
        x.fool(1, 2);
        Due.told("12 CRUMBS", x, x.place(1, 2), 1);
        Due.told("12 STONES", x, x.place(1, 3), 2);
        Due.told("12 KNOTS", x, x.place(1, 4), 3);
        Due.refused("12 place(6, 0)", x, () -> x.place(6, 0), BAD);
        Due.refused("12 place(-1, 0)", x, () -> x.place(-1, 0), BAD);
        Due.refused("12 place(0, 6)", x, () -> x.place(0, 6), BAD);
        Due.refused("12 place(0, -1)", x, () -> x.place(0, -1), BAD);
    }

    private static void seen() {
        int[][] want = {{1, 2, 4, 7}, {1, 2, 4, 7}, {0, 2, 0, 2}, {0, 2, 4, 6}, {5, 6, 4, 7}, {0, 0, 0, 0}};
        for (int kind = 0; kind < 6; kind++) {
            for (int m = 0; m < 4; m++) {
                CrumbWood x = Due.wood("pgtbmck000");
                for (int one = 0; one < 3; one++) {
                    if (m == one || m == 3) {
                        x.fool(kind, one);
                    }
                }
                Due.told("12 seen, kind " + kind + ", mark " + m, x, x.place(kind, 5), want[kind][m]);
            }
        }
    }

    private static void mark() {
        // 1 and 2 are GLADE and MEADOW, each beside all the others but 7
        CrumbWood x = Due.wood("pgmtcbpp-10-12-13-14-15-16-20-23-24k000");
        for (int i = 0; i < 8; i++) {
            for (int k = 0; k <= i; k++) {
                x.fool(i, 0);
            }
        }
        Due.is("13 a GLADE's CRUMBS", x.mark(1, 1), 1 + 2 + 3 + 7);
        Due.is("13 a MEADOW's CRUMBS", x.mark(2, 1), 1 + 2 + 3);
        Due.is("13 a BROOK's CRUMBS", x.mark(5, 3), 6);
        x.fool(3, 1);
        x.fool(3, 2);
        x.fool(4, 1);
        x.fool(4, 2);
        x.fool(4, 2);
        Due.is("13 a THICKET hides", x.mark(3, 2), 4 + 1);
        Due.is("13 a CAVE hides", x.mark(4, 2), 5 + 1 + 2);
        Due.is("13 a MEADOW's KNOTS", x.mark(2, 4), 0);
        x.fool(2, 2);
        Due.is("13 a MEADOW's KNOTS, one", x.mark(2, 4), 1);
        Due.is("13 a CAVE's THICKETS", x.mark(4, 5), 0);
        x.path(4, 3, 1);
        Due.is("13 a CAVE's THICKETS, one", x.mark(4, 5), 1);
        Due.found("13 mark(0, 1)", x, () -> x.mark(0, 1), UNLIKE);
        Due.found("13 mark(1, 4)", x, () -> x.mark(1, 4), UNLIKE);
        Due.found("13 mark(3, 5)", x, () -> x.mark(3, 5), UNLIKE);
        Due.found("13 mark(3, 1)", x, () -> x.mark(3, 1), UNLIKE);
        Due.found("13 mark(4, 1)", x, () -> x.mark(4, 1), UNLIKE);
        Due.found("13 mark(2, 2)", x, () -> x.mark(2, 2), UNLIKE);
        Due.found("13 mark(2, 3)", x, () -> x.mark(2, 3), UNLIKE);
        Due.refused("13 mark(0, 0)", x, () -> x.mark(0, 0), BAD);
        Due.refused("13 mark(0, -1)", x, () -> x.mark(0, -1), BAD);
        Due.refused("13 mark(1, 6)", x, () -> x.mark(1, 6), BAD);
        Due.refused("13 mark(8, 1)", x, () -> x.mark(8, 1), BAD);
        Due.refused("13 mark(-1, 1)", x, () -> x.mark(-1, 1), BAD);
        CrumbWood caves = Due.wood("pcct-12-13k000");
        Due.is("13 CAVES are THICKETS", caves.mark(1, 5), 2);
        brook();
    }

    private static void brook() {
        CrumbWood x = Due.wood("pb-01k300");
        x.lead(1);
        x.drop(0);
        x.keep(0);
        x.drop(0);
        x.fool(1, 0);
        Due.is("13 washed away", x.mark(1, 3), 3);
        x.hours(2);
        Due.is("13 washed away still", x.mark(1, 3), 3);
        x.on(0);
        Due.is("13 washed away as it was kept", x.mark(1, 3), 1);
    }

    private static void path() {
        CrumbWood x = Due.wood("ppp-01k000");
        Due.is("14 path(0, 1, 1) there already", x.path(0, 1, 1), 1);
        Due.is("14 path(0, 2, 0) none", x.path(0, 2, 0), 0);
        Due.is("14 path(2, 0, 1)", x.path(2, 0, 1), 0);
        Due.told("14 beside 0", x, x.place(0, 1), 6);
        Due.told("14 beside 2", x, x.place(2, 1), 1);
        Due.is("14 PATHS", x.count(1), 2);
        Due.is("14 path(1, 0, 0)", x.path(1, 0, 0), 1);
        Due.told("14 beside 0 then", x, x.place(0, 1), 4);
        Due.told("14 beside 1 then", x, x.place(1, 1), 0);
        Due.refused("14 path(0, 0, 1)", x, () -> x.path(0, 0, 1), BAD);
        Due.refused("14 path(0, 3, 1)", x, () -> x.path(0, 3, 1), BAD);
        Due.refused("14 path(3, 0, 1)", x, () -> x.path(3, 0, 1), BAD);
        Due.refused("14 path(-1, 0, 1)", x, () -> x.path(-1, 0, 1), BAD);
        Due.refused("14 path(0, -1, 1)", x, () -> x.path(0, -1, 1), BAD);
        Due.refused("14 path(0, 1, 2)", x, () -> x.path(0, 1, 2), BAD);
        Due.refused("14 path(0, 1, -1)", x, () -> x.path(0, 1, -1), BAD);
        CrumbWood full = Due.wood("ppppppppk000");
        for (int a = 0; a < 8; a++) {
            for (int b = a + 1; b < 8; b++) {
                Due.is("14 all PATHS", full.path(a, b, 1), 0);
            }
        }
        Due.is("14 all PATHS there are", full.count(1), 28);
    }

    private static void bird() {
        CrumbWood x = Due.wood("pppp-02-12v0v1v2v3k000");
        Due.both("15 bird(0)", x, x.bird(0), 0, 2);
        Due.both("15 bird(1)", x, x.bird(1), 1, 2);
        Due.both("15 bird(2) goes round", x, x.bird(2), 2, 0);
        Due.both("15 bird(3) stays", x, x.bird(3), 3, 3);
        x.hours(1);
        Due.both("15 bird(0) behind an HOUR", x, x.bird(0), 2, 0);
        Due.both("15 bird(2) behind an HOUR", x, x.bird(2), 0, 2);
        Due.both("15 bird(3) behind an HOUR", x, x.bird(3), 3, 3);
        Due.refused("15 bird(4)", x, () -> x.bird(4), BAD);
        Due.refused("15 bird(-1)", x, () -> x.bird(-1), BAD);
        CrumbWood none = Due.wood("ppk000");
        Due.refused("15 bird(0) of none", none, () -> none.bird(0), BAD);
        CrumbWood last = Due.wood("pppppppp-07-17v7v1k000");
        Due.both("15 bird(0) from the last", last, last.bird(0), 7, 0);
        Due.both("15 bird(1) to the last", last, last.bird(1), 1, 7);
    }

    private static void pocket() {
        CrumbWood x = Due.wood("ppk909");
        Due.is("16 pocket(0)", x.pocket(0), 9);
        Due.is("16 pocket(1)", x.pocket(1), 0);
        Due.is("16 pocket(2)", x.pocket(2), 9);
        Due.refused("16 pocket(3)", x, () -> x.pocket(3), BAD);
        Due.refused("16 pocket(-1)", x, () -> x.pocket(-1), BAD);
    }
}
