/** Promises 42 to 48: what is told. */
public final class ToldTest {
    private static final int BAD = CrumbWood.BAD, STATE = CrumbWood.STATE, NONE = CrumbWood.NONE;

    public static void main(String[] args) {
        asked();
        upperAndLower();
        count();
        findings();
        digest();
        digestAheadOfPlaces();
        digestOfAll();
        Due.end();
    }

    private static void asked() {
        CrumbWood x = new CrumbWood();
        Due.is("42 before", x.asked(), 0);
        Due.write(x, 0, "ppp-01-12v1k345");
        x.wood(0);
        Due.lay(x, 0, 1, 2);
        x.at(0, 1);
        Due.is("42 at()", x.asked(), 2);
        x.row(1, 3);
        x.text(1, 3);
        x.put(1, 0, 5);
        x.fault(1);
        x.copy(0, 0, 1, 0, 1);
        x.path(0, 2, 1);
        x.path(0, 2, 0);
        x.pocket(0);
        x.lead(1);
        x.lead(2);
        x.drop(0);
        x.fool(1, 0);
        x.take(1, 2);
        x.hours(0);
        x.led(2);
        x.keep(0);
        x.on(0);
        x.back(2);
        x.wrong();
        x.waits();
        x.astray();
        x.helps();
        x.odds();
        x.best();
        x.sure(2);
        x.was(0, 1);
        x.bare();
        x.lots(1, 1);
        x.count(3);
        x.finding();
        x.findings(1);
        x.digest();
        x.tear(1);
        Due.is("42 others tell nothing by it", x.asked(), 2);
        x.at(0, 9);
        x.mean(5);
        x.place(9, 9);
        x.bird(9);
        Due.is("42 nor refused ones", x.asked(), 2);
        x.on(0);
        x.path(0, 1, 0);
        Due.is("42 NONE of nearest()", x.nearest(), NONE);
        Due.is("42 NONE tells nothing by it", x.asked(), 2);
        x.ways(2);
        Due.is("42 NONE as told", x.asked(), NONE);
    }

    private static void upperAndLower() {
        CrumbWood x = Due.wood("ppp-01-12k000");
        Due.chances("43, 44 before", x, 0, 1);
        Due.lead(x, 1, 2);
        x.fool(1, 0);
        x.odds();
        Due.chances("43, 44 odds()", x, 1, 2);
        x.home();
        x.hours(1);
        x.wood(0);
        Due.chances("43, 44 stay", x, 1, 2);
        x.best();
        Due.chances("43, 44 best()", x, 1, 1);
    }

    private static void count() {
        CrumbWood x = Due.wood("ppctcgm-01-12-23v1v2v3k999");
        Due.lead(x, 1, 0);
        x.drop(0);
        x.drop(0);
        x.drop(1);
        x.fool(1, 2);
        x.fool(2, 2);
        x.fool(2, 2);
        x.fool(2, 2);
        x.row(0, 0);
        x.row(5, 0);
        x.text(3, 0);
        x.text(2, 0);
        x.keep(1);
        int[] want = {7, 3, 3, 2, 2, 1, 4, 2, 3, 1, 3};
        for (int what = 0; what < want.length; what++) {
            Due.is("45 count(" + what + ")", x.count(what), want[what]);
        }
        Due.refused("45 count(11)", x, () -> x.count(11), BAD);
        Due.refused("45 count(-1)", x, () -> x.count(-1), BAD);
    }

    private static void findings() {
        CrumbWood x = new CrumbWood();
        Due.is("46 before", x.finding(), 0);
        for (int f = 1; f <= 5; f++) {
            Due.is("47 before", x.findings(f), 0);
        }
        x.tear(0);
        Due.is("46 NOTHING", x.finding(), 1);
        x.row(0, 0);
        x.at(0, 0);
        Due.is("46 BEYOND", x.finding(), 2);
        x.mean(0);
        Due.is("46 NOUGHT", x.finding(), 4);
        x.row(0, -1);
        x.text(0, -1);
        Due.is("46 SIZE", x.finding(), 5);
        Due.write(x, 0, "ppk000");
        x.wood(0);
        x.mark(0, 1);
        Due.is("46 UNLIKE", x.finding(), 3);
        x.row(6, 0);
        x.here();
        Due.is("46 others leave it", x.finding(), 3);
        int[] want = {0, 1, 1, 1, 1, 2};
        for (int f = 1; f <= 5; f++) {
            Due.is("47 findings(" + f + ")", x.findings(f), want[f]);
        }
        Due.refused("47 findings(0)", x, () -> x.findings(0), BAD);
        Due.refused("47 findings(6)", x, () -> x.findings(6), BAD);
        Due.refused("47 findings(-1)", x, () -> x.findings(-1), BAD);
    }

    private static void digest() {
        CrumbWood x = new CrumbWood();
        long h = Due.fold(17, 0, 0, 0, 0, 0, 0, 0, 0, 0, 0, 0, 0, 0, 0);
        // no PLACES, so none by which THE CHILDREN were LED
        long woods = Due.fold(h, -1, -1, -1);
        long rows = Due.fold(woods, -1, -1, -1, -1, -1, -1);
        Due.is("48 of a new object", x.digest(), Due.fold(rows, -1, -1, -1, -1));
        Due.is("48 of a new object, as a number", x.digest(), -2914827305607008754L);
    }

    /** ROWS and TEXTS, one with a FAULT, bring no PLACES; the first WOOD brings HOME. */
    private static void digestAheadOfPlaces() {
        CrumbWood x = new CrumbWood();
        x.row(5, 1);
        Due.write(x, 0, "ppk00");
        Due.is("48 a FAULT", x.wood(0), STATE);
        long h = Due.fold(17, 0, 0, 0, 0, 0, 0, 0, 1, 1, 0, 0, 0, 0, 0);
        h = Due.fold(h, -1, -1, -1, -1, -1, -1, -1, -1, 1, 0);
        Due.is("48 ahead of PLACES", x.digest(), Due.fold(h, 5, 'p', 'p', 'k', '0', '0', -1, -1, -1));
        Due.write(x, 0, "ppk000");
        Due.is("48 the first WOOD", x.wood(0), 2);
        h = Due.fold(17, 2, 0, 0, 0, 0, 0, 0, 1, 1, 0, 0, 0, 0, 0);
        h = Due.fold(h, 0, 0, 0, 0, 0, 0, 0, 0, 0, 0, 0, 0);
        h = Due.fold(h, 0);
        h = Due.fold(h, -1, -1, -1, -1, -1, -1, -1, -1, 1, 0);
        Due.is("48 with HOME", x.digest(), Due.fold(h, 6, 'p', 'p', 'k', '0', '0', '0', -1, -1, -1));
    }

    private static void digestOfAll() {
        CrumbWood x = Due.wood("pmt-01-12v2k321");
        Due.lead(x, 1);
        x.drop(0);
        x.keep(1);
        x.lead(2);
        x.drop(1);
        Due.lay(x, 3, 7, -8);
        x.text(2, 1);
        x.put(2, 0, 200);
        long h = Due.fold(17, 3, 2, 1, 2, 1, 1, 0, 1, 2, 1, 1);
        h = Due.fold(h, 2, 1, 1);
        h = Due.fold(h, 0, 2, 0, 0, 0, 0);
        h = Due.fold(h, 4, 5, 1, 0, 0, 5);
        h = Due.fold(h, 2, 2, 0, 1, 0, 2);
        h = Due.fold(h, 2);
        h = Due.fold(h, 0, 1, 2);
        h = Due.fold(h, -1, 1, -1);
        h = Due.fold(h, -1, -1, -1, 2, 7, -8, -1, -1);
        h = Due.fold(h, 15);
        for (char c : "pmt-01-12v2k321".toCharArray()) {
            h = Due.fold(h, c);
        }
        h = Due.fold(h, -1, 1, -56, -1);
        int asked = x.asked();
        Due.is("48 of all", x.digest(), h);
        Due.is("48 leaves asked()", x.asked(), asked);
    }
}
