/** Promises 1 to 7: a new object, rows. */
public final class RowsTest {
    private static final int BAD = CrumbWood.BAD;
    private static final int NOTHING = 1, BEYOND = 2, NOUGHT = 4, SIZE = 5;

    public static void main(String[] args) {
        newObject();
        row();
        lay();
        at();
        tear();
        copy();
        mean();
        Due.end();
    }

    private static void newObject() {
        CrumbWood x = new CrumbWood();
        for (int what = 0; what <= 10; what++) {
            Due.is("1 count(" + what + ")", x.count(what), 0);
        }
        for (int m = 0; m < 3; m++) {
            Due.is("1 pocket(" + m + ")", x.pocket(m), 0);
        }
        for (int r = 0; r < 6; r++) {
            int row = r;
            Due.found("1 at(" + r + ", 0)", x, () -> x.at(row, 0), NOTHING);
        }
        for (int t = 0; t < 4; t++) {
            int text = t;
            Due.found("1 fault(" + t + ")", x, () -> x.fault(text), NOTHING);
        }
        for (int k = 0; k < 3; k++) {
            int kept = k;
            Due.found("1 on(" + k + ")", x, () -> x.on(kept), NOTHING);
        }
        Due.is("1 here()", x.here(), CrumbWood.STATE);
        Due.is("1 bird(0)", x.bird(0), BAD);
    }

    private static void row() {
        CrumbWood x = new CrumbWood();
        Due.is("2 row(0, 40)", x.row(0, 40), 40);
        Due.told("2 its last", x, x.at(0, 39), 0);
        Due.is("2 row(5, 0)", x.row(5, 0), 0);
        Due.is("2 count(7)", x.count(7), 2);
        x.lay(0, 0, 9);
        Due.is("2 row anew", x.row(0, 1), 1);
        Due.cells("2 row anew", x, 0, 0);
        x.lay(0, 0, 8);
        x.row(0, 0);
        x.row(0, 3);
        Due.cells("2 row anew larger", x, 0, 0, 0, 0);
        Due.refused("2 row(0, 41)", x, () -> x.row(0, 41), BAD);
        Due.refused("2 row(-1, 1)", x, () -> x.row(-1, 1), BAD);
        Due.refused("2 row(6, 1)", x, () -> x.row(6, 1), BAD);
        Due.refused("2 row(6, -1)", x, () -> x.row(6, -1), BAD);
        Due.found("2 row(0, -1)", x, () -> x.row(0, -1), SIZE);
        Due.found("2 row(1, least)", x, () -> x.row(1, Integer.MIN_VALUE), SIZE);
    }

    private static void lay() {
        CrumbWood x = new CrumbWood();
        x.row(2, 3);
        Due.told("3 lay(2, 1, 7)", x, x.lay(2, 1, 7), 0);
        Due.told("3 lay(2, 1, least)", x, x.lay(2, 1, Integer.MIN_VALUE), 7);
        Due.told("3 lay(2, 1, 5)", x, x.lay(2, 1, 5), Integer.MIN_VALUE);
        Due.cells("3 lay", x, 2, 0, 5, 0);
        Due.refused("3 lay(6, 0, 1)", x, () -> x.lay(6, 0, 1), BAD);
        Due.refused("3 lay(-1, 0, 1)", x, () -> x.lay(-1, 0, 1), BAD);
        Due.found("3 lay(3, -1, 1)", x, () -> x.lay(3, -1, 1), NOTHING);
        Due.found("3 lay(2, 3, 1)", x, () -> x.lay(2, 3, 1), BEYOND);
        Due.found("3 lay(2, -1, 1)", x, () -> x.lay(2, -1, 1), BEYOND);
    }

    private static void at() {
        CrumbWood x = new CrumbWood();
        Due.lay(x, 4, 3, -9, 11);
        Due.told("4 at(4, 0)", x, x.at(4, 0), 3);
        Due.told("4 at(4, 1)", x, x.at(4, 1), -9);
        Due.told("4 at(4, 2)", x, x.at(4, 2), 11);
        Due.refused("4 at(6, 0)", x, () -> x.at(6, 0), BAD);
        Due.refused("4 at(-1, 0)", x, () -> x.at(-1, 0), BAD);
        Due.found("4 at(3, 9)", x, () -> x.at(3, 9), NOTHING);
        Due.found("4 at(4, 3)", x, () -> x.at(4, 3), BEYOND);
        Due.found("4 at(4, least)", x, () -> x.at(4, Integer.MIN_VALUE), BEYOND);
        Due.found("4 at(4, greatest)", x, () -> x.at(4, Integer.MAX_VALUE), BEYOND);
    }

    private static void tear() {
        CrumbWood x = new CrumbWood();
        x.row(0, 0);
        x.row(1, 4);
        Due.is("5 tear(0)", x.tear(0), 1);
        Due.is("5 count(7)", x.count(7), 1);
        Due.found("5 tear(0) again", x, () -> x.tear(0), NOTHING);
        Due.found("5 at(0, 0)", x, () -> x.at(0, 0), NOTHING);
        Due.refused("5 tear(6)", x, () -> x.tear(6), BAD);
        Due.refused("5 tear(-1)", x, () -> x.tear(-1), BAD);
    }

    private static void copy() {
        CrumbWood x = new CrumbWood();
        Due.lay(x, 0, 1, 2, 3, 4, 5);
        Due.is("6 copy ahead in itself", x.copy(0, 0, 0, 1, 4), 1);
        Due.cells("6 copy ahead in itself", x, 0, 1, 1, 2, 3, 4);
        Due.is("6 copy back in itself", x.copy(0, 2, 0, 0, 3), 1);
        Due.cells("6 copy back in itself", x, 0, 2, 3, 4, 3, 4);
        x.row(1, 2);
        Due.is("6 copy to another", x.copy(0, 3, 1, 0, 2), 1);
        Due.cells("6 copy to another", x, 1, 3, 4);
        Due.is("6 copy none at the end", x.copy(0, 5, 1, 2, 0), 1);
        Due.refused("6 copy(6, ..)", x, () -> x.copy(6, 0, 0, 0, -1), BAD);
        Due.refused("6 copy(.., -1, ..)", x, () -> x.copy(0, 0, -1, 0, 1), BAD);
        Due.refused("6 copy(.., 6, ..)", x, () -> x.copy(0, 0, 6, 0, 1), BAD);
        Due.found("6 copy n -1, missing", x, () -> x.copy(2, 0, 0, 0, -1), SIZE);
        Due.found("6 copy from missing", x, () -> x.copy(2, 0, 0, 9, 1), NOTHING);
        Due.found("6 copy to missing", x, () -> x.copy(0, 0, 2, 0, 0), NOTHING);
        Due.found("6 copy from beyond", x, () -> x.copy(0, 4, 1, 0, 2), BEYOND);
        Due.found("6 copy to beyond", x, () -> x.copy(0, 0, 1, 1, 2), BEYOND);
        Due.found("6 copy from below", x, () -> x.copy(0, -1, 1, 0, 1), BEYOND);
        Due.found("6 copy to below", x, () -> x.copy(0, 0, 1, -1, 1), BEYOND);
        Due.found("6 copy too many", x, () -> x.copy(0, 1, 1, 0, Integer.MAX_VALUE), BEYOND);
        Due.found("6 copy far", x, () -> x.copy(0, Integer.MAX_VALUE, 1, 0, 1), BEYOND);
        Due.found("6 copy none behind the end", x, () -> x.copy(0, 6, 1, 0, 0), BEYOND);
    }

    private static void mean() {
        CrumbWood x = new CrumbWood();
        Due.lay(x, 0, 1, 2, 5);
        Due.told("7 mean", x, x.mean(0), 2);
        Due.lay(x, 0, -3, -4);
        Due.told("7 mean below 0 is cut", x, x.mean(0), -3);
        Due.lay(x, 0, Integer.MAX_VALUE, Integer.MAX_VALUE, Integer.MAX_VALUE);
        Due.told("7 mean of great ones", x, x.mean(0), Integer.MAX_VALUE);
        Due.lay(x, 0, Integer.MIN_VALUE, Integer.MIN_VALUE);
        Due.told("7 mean of least ones", x, x.mean(0), Integer.MIN_VALUE);
        x.row(1, 0);
        Due.found("7 mean of none", x, () -> x.mean(1), NOUGHT);
        Due.found("7 mean of missing", x, () -> x.mean(2), NOTHING);
        Due.refused("7 mean(6)", x, () -> x.mean(6), BAD);
        Due.refused("7 mean(-1)", x, () -> x.mean(-1), BAD);
    }
}
