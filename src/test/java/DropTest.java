/** Promises 31 to 34: where to drop. */
public final class DropTest {
    private static final int BAD = CrumbWood.BAD, STATE = CrumbWood.STATE, NONE = CrumbWood.NONE;
    private static final int NOTHING = 1, UNLIKE = 3, SIZE = 5;

    public static void main(String[] args) {
        fewest();
        hoursOfAPlan();
        surest();
        refusals();
        astrayAndHelps();
        Due.end();
    }

    private static void fewest() {
        CrumbWood x = Due.wood("pppp-01-12-23k000");
        Due.lay(x, 0, 1, 2, 3);
        Due.both("31 two STONES", x, x.fewest(0, 0), 2, 6);
        Due.is("31 aside", x.count(5), 0);
        Due.is("31 aside, still at HOME", x.here(), 0);
        x.fool(2, 0);
        Due.both("31 a CRUMB is there", x, x.fewest(0, 0), 1, 2);
        Due.lay(x, 0);
        Due.both("31 at HOME, none", x, x.fewest(0, 0), 0, 0);
        Due.lay(x, 0, 1, 0, 1, 2, 1, 2, 3, 2);
        Due.both("31 eight PLACES", x, x.fewest(0, 40), 1, 2);
        Due.lead(x, 1, 2);
        Due.lay(x, 0, 3);
        x.here();
        Due.both("31 not on a PLACE of it", x, x.fewest(0, 0), NONE, 2);
        x.fool(1, 2);
        x.take(2, 0);
        Due.both("31 where they are, too", x, x.fewest(0, 0), 1, 4);
        // two ways alike: the least bits, not the first in the ROW
        CrumbWood two = Due.wood("pppp-01-02-13-23k000");
        Due.lay(two, 1, 2, 3, 1, 3);
        Due.both("31 the least", two, two.fewest(1, 0), 1, 2);
        // fewer STONES go ahead of less bits
        CrumbWood few = Due.wood("ppppp-01-12-24-03-34k000");
        Due.lay(few, 1, 1, 2, 4, 3, 4);
        Due.both("31 fewest ahead of least", few, few.fewest(1, 0), 1, 8);
        CrumbWood cave = Due.wood("pcp-01-12k000");
        Due.lay(cave, 1, 1, 2);
        cave.here();
        Due.both("31 not SEEN in a CAVE", cave, cave.fewest(1, 0), NONE, 0);
        CrumbWood meadow = Due.wood("pmp-01-12k000");
        Due.lay(meadow, 1, 1, 2);
        Due.both("31 a MEADOW leads", meadow, meadow.fewest(1, 0), 0, 0);
        CrumbWood thicket = Due.wood("ptp-01-12k000");
        Due.lay(thicket, 1, 1, 2);
        Due.both("31 SEEN in a THICKET", thicket, thicket.fewest(1, 0), 1, 2);
    }

    private static void hoursOfAPlan() {
        CrumbWood x = Due.wood("ppp-01-12v0k000");
        x.fool(1, 0);
        Due.lay(x, 0, 1, 2);
        Due.both("31 no HOUR", x, x.fewest(0, 0), 0, 0);
        Due.both("31 an HOUR, not eaten yet", x, x.fewest(0, 1), 0, 0);
        Due.both("31 two HOURS, eaten", x, x.fewest(0, 2), 1, 2);
        Due.is("31 aside", x.count(4), 1);
        Due.is("31 aside, the BIRD", x.bird(0), 0);
    }

    private static void surest() {
        CrumbWood x = Due.wood("pppp-01-02-13-23k000");
        Due.lay(x, 0, 1, 3, 2, 3);
        Due.both("32 two ways", x, x.surest(0, 0), 2, 6);
        Due.lay(x, 0, 1, 3);
        x.place(0, 0);
        Due.both("32 one way", x, x.surest(0, 0), NONE, 0);
        Due.both("31 one way", x, x.fewest(0, 0), 1, 2);
        x.fool(2, 0);
        Due.both("32 with a CRUMB", x, x.surest(0, 0), 1, 2);
        x.fool(1, 2);
        Due.both("32 with what lies", x, x.surest(0, 0), 0, 0);
        x.path(0, 3, 1);
        x.take(1, 2);
        x.take(2, 0);
        Due.both("32 beside HOME", x, x.surest(0, 0), 0, 0);
        CrumbWood meadow = Due.wood("pmp-01-12k000");
        Due.lay(meadow, 1, 1, 2);
        Due.both("32 a MEADOW's KNOT is never gone", meadow, meadow.surest(1, 0), 0, 0);
        // a STONE that leads astray must go, or its like be taken away
        CrumbWood bird = Due.wood("pppp-01-02-13-23v1k000");
        Due.lay(bird, 0, 1, 3);
        bird.fool(1, 0);
        bird.fool(2, 2);
        Due.both("32 no HOUR", bird, bird.surest(0, 0), 0, 0);
        Due.both("32 an HOUR", bird, bird.surest(0, 1), 1, 2);
    }

    private static void refusals() {
        CrumbWood none = new CrumbWood();
        CrumbWood x = Due.wood("ppp-01k000");
        for (int i = 0; i < 2; i++) {
            boolean sure = i == 1;
            String call = sure ? "32 surest" : "31 fewest";
            Due.refused(call + "(6, 0)", none, () -> run(none, sure, 6, 0), BAD);
            Due.refused(call + "(-1, 0)", none, () -> run(none, sure, -1, 0), BAD);
            Due.refused(call + "(0, 41)", none, () -> run(none, sure, 0, 41), BAD);
            Due.refused(call + "(0, -1)", none, () -> run(none, sure, 0, -1), BAD);
            Due.refused(call + ", no PLACES", none, () -> run(none, sure, 0, 0), STATE);
            Due.found(call + ", no ROW", x, () -> run(x, sure, 5, 0), NOTHING);
            Due.lay(x, 0, 9, 9, 9, 9, 9, 9, 9, 9, 9);
            Due.found(call + ", nine", x, () -> run(x, sure, 0, 0), SIZE);
            Due.lay(x, 0, 1, 3);
            Due.found(call + ", no PLACE", x, () -> run(x, sure, 0, 0), UNLIKE);
            Due.lay(x, 0, 1, -1);
            Due.found(call + ", below 0", x, () -> run(x, sure, 0, 0), UNLIKE);
            Due.lay(x, 0, 2);
            Due.found(call + ", first not beside", x, () -> run(x, sure, 0, 0), UNLIKE);
            Due.lay(x, 0, 1, 2);
            Due.found(call + ", second not beside", x, () -> run(x, sure, 0, 0), UNLIKE);
            Due.lay(x, 0, 0);
            Due.found(call + ", where they are", x, () -> run(x, sure, 0, 0), UNLIKE);
        }
        Due.refused("33 astray(), no PLACES", none, () -> none.astray(), STATE);
        Due.refused("34 helps(), no PLACES", none, () -> none.helps(), STATE);
    }

    private static int run(CrumbWood x, boolean sure, int r, int n) {
        return sure ? x.surest(r, n) : x.fewest(r, n);
    }

    private static void astrayAndHelps() {
        CrumbWood x = Due.wood("pppp-01-12-23k000");
        Due.is("33 at HOME", x.astray(), 0);
        Due.is("34 at HOME", x.helps(), 0);
        Due.lead(x, 1, 2);
        Due.is("33 lost now", x.astray(), 0);
        Due.is("34 one STONE", x.helps(), 2);
        x.fool(1, 0);
        Due.is("33 led astray", x.astray(), 8);
        Due.is("34 not lost", x.helps(), 0);
        Due.is("33 aside", x.count(5), 0);
        x.fool(1, 1);
        Due.is("33 a STONE of their own is less", x.astray(), 0);
        x.take(1, 0);
        x.take(1, 1);
        x.fool(3, 0);
        Due.is("34 from a CRUMB", x.helps(), 2);
        CrumbWood cave = Due.wood("ppcp-01-13-23-30k000");
        Due.lead(cave, 1, 3);
        cave.path(0, 3, 0);
        cave.fool(1, 0);
        Due.is("33 in a CAVE it is not SEEN", cave.astray(), 0);
        CrumbWood many = Due.wood("pppppp-01-02-13-23-34-35k000");
        Due.lead(many, 1, 3);
        many.fool(1, 1);
        Due.is("33 only less numbers or none", many.astray(), 0);
        many.take(1, 1);
        many.fool(2, 2);
        Due.is("33 two PLACES", many.astray(), 16 + 32);
        many.take(2, 2);
        Due.is("34 two PLACES", many.helps(), 2 + 4);
    }
}
