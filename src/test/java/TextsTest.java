/** Promises 8 to 11: texts, faults, woods. */
public final class TextsTest {
    private static final int BAD = CrumbWood.BAD, STATE = CrumbWood.STATE, NONE = CrumbWood.NONE;
    private static final int NOTHING = 1, BEYOND = 2, SIZE = 5;

    public static void main(String[] args) {
        text();
        put();
        fault();
        wood();
        Due.end();
    }

    private static void text() {
        CrumbWood x = new CrumbWood();
        Due.is("8 text(0, 80)", x.text(0, 80), 80);
        Due.is("8 text(3, 0)", x.text(3, 0), 0);
        Due.is("8 count(8)", x.count(8), 2);
        Due.is("8 its last is blank", x.put(0, 79, 1), 1032);
        Due.is("8 text anew", x.text(0, 80), 80);
        Due.is("8 anew its last is blank", x.put(0, 79, 1), 1032);
        Due.refused("8 text(0, 81)", x, () -> x.text(0, 81), BAD);
        Due.refused("8 text(4, 1)", x, () -> x.text(4, 1), BAD);
        Due.refused("8 text(-1, -1)", x, () -> x.text(-1, -1), BAD);
        Due.found("8 text(0, -1)", x, () -> x.text(0, -1), SIZE);
    }

    private static void put() {
        CrumbWood x = new CrumbWood();
        x.text(1, 2);
        Due.is("9 put(1, 0, 127)", x.put(1, 0, 127), 1032);
        Due.is("9 put(1, 0, 128)", x.put(1, 0, 128), 1127);
        Due.is("9 put(1, 0, 256 + 7)", x.put(1, 0, 256 + 7), 872);
        Due.is("9 put(1, 0, -1)", x.put(1, 0, -1), 1007);
        Due.is("9 put(1, 0, 0)", x.put(1, 0, 0), 999);
        Due.is("9 put(1, 1, 5)", x.put(1, 1, 5), 1032);
        Due.refused("9 put(4, 0, 1)", x, () -> x.put(4, 0, 1), BAD);
        Due.refused("9 put(-1, 0, 1)", x, () -> x.put(-1, 0, 1), BAD);
        Due.found("9 put(0, -1, 1)", x, () -> x.put(0, -1, 1), NOTHING);
        Due.found("9 put(1, 2, 1)", x, () -> x.put(1, 2, 1), BEYOND);
        Due.found("9 put(1, -1, 1)", x, () -> x.put(1, -1, 1), BEYOND);
    }

    private static void faultOf(String text, int want) {
        CrumbWood x = new CrumbWood();
        Due.write(x, 2, text);
        long digest = x.digest();
        Due.is("10 fault \"" + text + "\"", x.fault(2), want);
        Due.is("10 digest() behind it", x.digest(), digest);
    }

    private static void fault() {
        rightTexts();
        earlyEnds();
        wrongSigns();
        wrongTurns();
        tooMany();
        CrumbWood x = new CrumbWood();
        Due.write(x, 0, "pppppp-01-02-03-04-05-12-13-14k000");
        Due.is("10 fault once", x.fault(0), NONE);
        Due.is("10 fault twice", x.fault(0), NONE);
        Due.refused("10 fault(4)", x, () -> x.fault(4), BAD);
        Due.refused("10 fault(-1)", x, () -> x.fault(-1), BAD);
        Due.found("10 fault(3)", x, () -> x.fault(3), NOTHING);
    }

    private static void rightTexts() {
        faultOf("ppk000", NONE);
        faultOf("pgtbmcppk999", NONE);
        faultOf("  p  g  -01  v0  v1  k123  ", NONE);
        faultOf("pp-01v1k000", NONE);
        faultOf("ppv1k000", NONE);
        faultOf("pp-10k000", NONE);
        faultOf("ppv1v1v1v1k000", NONE);
        faultOf("pppppp-01-02-03-04-05-12-13-14-15-23-24-25-34-35k000", NONE);
    }

    private static void earlyEnds() {
        faultOf("", 0);
        faultOf("    ", 4);
        faultOf("p", 1);
        faultOf("p  ", 3);
        faultOf("pp", 2);
        faultOf("pp  ", 4);
        faultOf("pp-", 3);
        faultOf("pp-0", 4);
        faultOf("pp-01", 5);
        faultOf("ppv", 3);
        faultOf("ppv0", 4);
        faultOf("ppk", 3);
        faultOf("ppk1", 4);
        faultOf("ppk12", 5);
    }

    private static void wrongSigns() {
        faultOf("x", 0);
        faultOf("pPk000", 1);
        faultOf("pp?k000", 2);
        faultOf("pp- 01k000", 3);
        faultOf("pp-0 1k000", 4);
        faultOf("pp-21k000", 3);
        faultOf("pp-02k000", 4);
        faultOf("pp-0/k000", 4);
        faultOf("pp-/1k000", 3);
        faultOf("pp-00k000", 4);
        faultOf("pp-01-01k000", 7);
        faultOf("pp-01 -10k000", 8);
        faultOf("ppv k000", 3);
        faultOf("ppv2k000", 3);
        faultOf("ppvxk000", 3);
        faultOf("ppk 000", 3);
        faultOf("ppk0:0", 4);
        faultOf("ppk00/", 5);
        faultOf("ppk00 0", 5);
        faultOf("pppppppp-08k000", 10);
        faultOf("pp\u00ffk000", 2);
        faultOf("pp" + (char) (256 + 'k') + "000", NONE);
    }

    private static void wrongTurns() {
        faultOf("-01", 0);
        faultOf(" v0", 1);
        faultOf("k000", 0);
        faultOf("p-01", 1);
        faultOf("p  v0k000", 3);
        faultOf("p k000", 2);
        faultOf("p x", 2);
        faultOf("pp-01pk000", 5);
        faultOf("ppv0pk000", 4);
        faultOf("ppv0-01k000", 4);
        faultOf("ppk000p", 6);
        faultOf("ppk000 -01", 7);
        faultOf("ppk000v0", 6);
        faultOf("ppk000 k000", 7);
        faultOf("ppk0000", 6);
        faultOf("ppk000 x", 7);
    }

    private static void tooMany() {
        faultOf("pppppppppk000", 8);
        faultOf("pppppppp pk000", 9);
        faultOf("ppppppppx", 8);
        faultOf("pppppp-01-02-03-04-05-12-13-14-15-23-24-25-34-35-45k000", 48);
        faultOf("pppppp-01-02-03-04-05-12-13-14-15-23-24-25-34-35 -99", 49);
        faultOf("ppv0v0v0v0v0k000", 10);
        faultOf("ppv0v1v0v1 v9k000", 11);
    }

    private static void wood() {
        CrumbWood x = Due.wood("pgb-01-12v1k321");
        Due.is("11 pocket(0)", x.pocket(0), 3);
        Due.is("11 pocket(1)", x.pocket(1), 2);
        Due.is("11 pocket(2)", x.pocket(2), 1);
        Due.is("11 bird(0)", x.bird(0), 1);
        Due.lead(x, 1, 2);
        x.drop(0);
        x.drop(1);
        x.fool(0, 2);
        x.keep(0);
        x.keep(2);
        x.path(0, 2, 1);
        x.hours(1);
        // what is looked at aside must not come into the next WOOD
        x.waits();
        Due.write(x, 1, "pp");
        Due.refused("11 wood with a fault", x, () -> x.wood(1), STATE);
        Due.found("11 wood(2)", x, () -> x.wood(2), NOTHING);
        Due.refused("11 wood(4)", x, () -> x.wood(4), BAD);
        Due.refused("11 wood(-1)", x, () -> x.wood(-1), BAD);
        Due.is("11 kept still", x.count(9), 2);
        Due.is("11 wood anew", x.wood(0), 3);
        Due.is("11 anew: kept WOODS go", x.count(9), 0);
        Due.found("11 anew: on(0)", x, () -> x.on(0), NOTHING);
        Due.both("11 anew: here()", x, x.here(), 0, 0);
        Due.is("11 anew: no CRUMBS", x.count(4), 0);
        Due.is("11 anew: no STONES", x.count(5), 0);
        Due.is("11 anew: no KNOTS", x.count(6), 0);
        Due.is("11 anew: none washed away", x.mark(2, 3), 0);
        Due.is("11 anew: PATHS", x.count(1), 2);
        Due.is("11 anew: bird(0)", x.bird(0), 1);
        Due.is("11 anew: pocket(0)", x.pocket(0), 3);
        Due.write(x, 3, "ppk000");
        x.waits();
        Due.is("11 another wood", x.wood(3), 2);
        Due.is("11 another: PATHS", x.count(1), 0);
        Due.is("11 another: BIRDS", x.count(2), 0);
        Due.is("11 another: THICKETS", x.count(10), 0);
        Due.is("11 another: no third PLACE", x.place(2, 0), BAD);
    }
}
