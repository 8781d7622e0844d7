/** Promises 37 to 41: by what lies, by birds, lots. */
public final class LiesTest {
    private static final int BAD = CrumbWood.BAD, STATE = CrumbWood.STATE, FULL = CrumbWood.FULL, NONE = CrumbWood.NONE;

    public static void main(String[] args) {
        ways();
        sure();
        was();
        bare();
        lots();
        lotsByNumbers();
        withoutPlaces();
        Due.end();
    }

    private static void ways() {
        CrumbWood x = Due.wood("ppppp-01-02-13-23-12k000");
        Due.both("37 no STEP, at HOME", x, x.ways(0), 1, NONE);
        Due.lead(x, 1, 3);
        Due.both("37 no STEP, elsewhere", x, x.ways(0), 0, NONE);
        Due.both("37 no MARKS", x, x.ways(2), 0, NONE);
        x.fool(3, 1);
        x.fool(2, 0);
        Due.both("37 one way", x, x.ways(2), 1, 2);
        x.fool(1, 2);
        Due.both("37 two ways", x, x.ways(2), 2, 1);
        Due.both("37 three STEPS", x, x.ways(3), 2, 1);
        Due.both("37 four STEPS, HOME not marked", x, x.ways(4), 6, 1);
        x.fool(0, 0);
        Due.both("37 four STEPS, HOME marked", x, x.ways(4), 10, 1);
        Due.both("37 no STEP behind others", x, x.ways(0), 0, NONE);
        x.take(3, 1);
        Due.both("37 not where they are", x, x.ways(2), 0, NONE);
        CrumbWood hidden = Due.wood("pcm-01-12k000");
        Due.lead(hidden, 1, 2);
        hidden.fool(1, 0);
        Due.both("37 tied by others", hidden, hidden.ways(2), 0, NONE);
        hidden.fool(2, 2);
        Due.both("37 whatever is SEEN", hidden, hidden.ways(2), 1, 1);
        Due.refused("37 ways(9)", x, () -> x.ways(9), BAD);
        Due.refused("37 ways(-1)", x, () -> x.ways(-1), BAD);
        CrumbWood full = Due.wood("ppppppppk000");
        for (int a = 0; a < 8; a++) {
            full.fool(a, 1);
            for (int b = a + 1; b < 8; b++) {
                full.path(a, b, 1);
            }
        }
        Due.both("37 eight STEPS among all", full, full.ways(8), (5764801 + 7) / 8, 1);
    }

    private static void sure() {
        CrumbWood x = Due.wood("ppppp-01-02-13-23-34k000");
        Due.is("38 no STEP, at HOME", x.sure(0), 1);
        Due.lead(x, 1, 3, 4);
        Due.is("38 no STEP, elsewhere", x.sure(0), 0);
        for (int i = 1; i < 5; i++) {
            x.fool(i, 0);
        }
        Due.is("38 none so short", x.sure(2), 0);
        Due.is("38 either way", x.sure(3), 1 + 8 + 16);
        x.take(1, 0);
        Due.is("38 one way", x.sure(3), 1 + 4 + 8 + 16);
        x.asked();
        int before = x.asked();
        x.sure(3);
        Due.is("42 sure() tells nothing by asked()", x.asked(), before);
        x.take(3, 0);
        Due.is("38 none", x.sure(3), 0);
        CrumbWood round = Due.wood("ppp-01-12-20k000");
        round.fool(0, 1);
        round.fool(1, 1);
        round.fool(2, 1);
        Due.is("38 round from HOME", round.sure(3), 7);
        Due.is("38 to and fro", round.sure(2), 1);
        Due.refused("38 sure(9)", x, () -> x.sure(9), BAD);
        Due.refused("38 sure(-1)", x, () -> x.sure(-1), BAD);
    }

    private static void was() {
        // BIRDS fly 0 to 1, 1 to 2, 2 to 3, 3 to 0; 4 to 0, 5 stays
        CrumbWood x = Due.wood("pppppp-01-12-23-30-40v0v5v1k000");
        Due.both("39 bird 0 flies", x, x.bird(0), 0, 1);
        Due.is("39 no HOURS ago", x.was(0, 0), 1);
        Due.is("39 an HOUR ago", x.was(0, 1), 8 + 16);
        Due.is("39 two HOURS ago", x.was(0, 2), 4);
        Due.is("39 five HOURS ago", x.was(0, 5), 8 + 16);
        Due.is("39 40 HOURS ago", x.was(0, 40), 1);
        Due.is("39 stays", x.was(1, 40), 32);
        Due.is("39 two HOURS ago, bird 2", x.was(2, 2), 8 + 16);
        CrumbWood y = Due.wood("ppp-02-12v1k000");
        Due.is("39 nowhere", y.was(0, 1), 0);
        Due.is("39 nowhere, and ahead", y.was(0, 2), 0);
        y.path(0, 2, 0);
        Due.is("39 by PATHS now", y.was(0, 1), 4);
        Due.refused("39 was(3, 0)", x, () -> x.was(3, 0), BAD);
        Due.refused("39 was(-1, 0)", x, () -> x.was(-1, 0), BAD);
        Due.refused("39 was(0, 41)", x, () -> x.was(0, 41), BAD);
        Due.refused("39 was(0, -1)", x, () -> x.was(0, -1), BAD);
    }

    private static void bare() {
        CrumbWood x = Due.wood("pppp-01-12v0k000");
        Due.is("40 none lie", x.bare(), 0);
        x.fool(0, 0);
        Due.is("40 an HOUR", x.bare(), 1);
        x.fool(2, 0);
        Due.is("40 three HOURS", x.bare(), 3);
        Due.is("40 aside", x.count(4), 2);
        Due.is("40 aside, the BIRD", x.bird(0), 0);
        x.fool(3, 0);
        Due.is("40 no BIRD comes", x.bare(), NONE);
    }

    private static void lots() {
        CrumbWood x = Due.wood("pp-01k300");
        Due.is("41 lots(5, 1)", x.lots(5, 1), 5);
        Due.both("41 here()", x, x.here(), 1, 5);
        Due.is("41 lots(20, greatest)", x.lots(20, 2147483646), 20);
        Due.refused("41 lots(6, 1)", x, () -> x.lots(6, 1), FULL);
        Due.is("41 lots(5, 1) to 30", x.lots(5, 1), 5);
        Due.refused("41 lots(1, 1)", x, () -> x.lots(1, 1), FULL);
        Due.refused("41 lots(0, 1)", x, () -> x.lots(0, 1), BAD);
        Due.refused("41 lots(21, 1)", x, () -> x.lots(21, 1), BAD);
        Due.refused("41 lots(1, 0)", x, () -> x.lots(1, 0), BAD);
        Due.refused("41 lots(1, -5)", x, () -> x.lots(1, -5), BAD);
        Due.refused("41 lots(1, 2147483647)", x, () -> x.lots(1, 2147483647), BAD);
        CrumbWood alone = Due.wood("ppk900");
        Due.is("41 without a PLACE beside", alone.lots(20, 5), 0);
        Due.is("41 nothing dropped", alone.pocket(0), 9);
        Due.both("41 still there", alone, alone.here(), 0, 0);
        alone.path(0, 1, 1);
        alone.lots(20, 5);
        Due.refused("41 FULL also without a PLACE beside", alone, () -> {
            alone.path(0, 1, 0);
            int answer = alone.lots(11, 5);
            alone.path(0, 1, 1);
            return answer;
        }, FULL);
    }

    /** The numbers by hand: 48271, 182605794, 1291394886, from seed 1. */
    private static void lotsByNumbers() {
        CrumbWood x = Due.wood("ppbp-01-02-03-12-13-23k900");
        Due.is("41 by numbers", x.lots(3, 1), 3);
        x.led(0);
        // of 1, 2, 3 at 48271 % 3 = 1: 2; of 0, 1, 3 at 182605794 % 3 = 0: 0; of 1, 2, 3 at 1291394886 % 3 = 0: 1
        Due.cells("41 by numbers", x, 0, 0, 2, 0, 1);
        // 48271 / 64 = 754: even; 182605794 / 64 = 2853215: odd; 1291394886 / 64 = 20178045: odd
        Due.told("41 none in 2", x, x.place(2, 2), 0);
        Due.is("41 none washed away", x.mark(2, 3), 0);
        Due.told("41 one in 0", x, x.place(0, 2), 1);
        Due.told("41 one in 1", x, x.place(1, 2), 1);
        Due.is("41 POCKETS", x.pocket(0), 7);
        CrumbWood few = Due.wood("ppbp-01-02-03-12-13-23k100");
        Due.is("41 one CRUMB alone", few.lots(3, 1), 3);
        Due.is("41 it lies", few.count(4), 1);
        Due.told("41 it lies in 0", few, few.place(0, 2), 1);
        Due.is("41 none left", few.pocket(0), 0);
        // of 1 .. 5 at 48271 % 5 = 1: 2; at 182605794 % 5 = 4: of 0, 1, 3, 4, 5 the last; at 1291394886 % 5 = 1
        CrumbWood many = Due.wood("pppppp-01-02-03-04-05-21-23-24-25-51-53-54k000");
        many.lots(3, 1);
        many.led(0);
        Due.cells("41 the last of five", many, 0, 0, 2, 5, 1);
        CrumbWood brook = Due.wood("bb-01k900");
        Due.is("41 in BROOKS", brook.lots(3, 1), 3);
        Due.is("41 in BROOKS none lies", brook.count(4), 0);
        Due.is("41 washed away", brook.mark(0, 3) + brook.mark(1, 3), 2);
    }

    private static void withoutPlaces() {
        CrumbWood x = new CrumbWood();
        Due.refused("37 ways(0), no PLACES", x, () -> x.ways(0), STATE);
        Due.refused("37 ways(9), no PLACES", x, () -> x.ways(9), BAD);
        Due.refused("38 sure(0), no PLACES", x, () -> x.sure(0), STATE);
        Due.refused("38 sure(9), no PLACES", x, () -> x.sure(9), BAD);
        Due.refused("39 was(0, 0), no PLACES", x, () -> x.was(0, 0), BAD);
        Due.refused("40 bare(), no PLACES", x, () -> x.bare(), STATE);
        Due.refused("41 lots(1, 1), no PLACES", x, () -> x.lots(1, 1), STATE);
        Due.refused("41 lots(21, 1), no PLACES", x, () -> x.lots(21, 1), BAD);
    }
}
