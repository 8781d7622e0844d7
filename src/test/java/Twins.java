import java.util.ArrayList;
import java.util.List;
import java.util.function.Supplier;

/** Two objects that did the same, and all that they can tell: what one call more changed on one of them. */
final class Twins {
    private Twins() {
    }

    /** A call that is refused changes nothing but finding(), findings(): not even in what is kept. */
    static void refused(Supplier<CrumbWood> make, String line) {
        compare(make, line, true);
    }

    /** A call that looks only changes nothing but what is told. */
    static void aside(Supplier<CrumbWood> make, String line) {
        compare(make, line, false);
    }

    private static void compare(Supplier<CrumbWood> make, String line, boolean told) {
        CrumbWood x = make.get();
        CrumbWood y = make.get();
        Script.on(x, line);
        if (told) {
            same(line + " asked()", List.of((long) x.asked(), x.upper(), x.lower()), List.of((long) y.asked(), y.upper(), y.lower()));
        }
        same(line + " leaves", all(x), all(y));
    }

    private static void same(String call, List<Long> got, List<Long> want) {
        Due.is(call + " as many", got.size(), want.size());
        for (int i = 0; i < Math.min(got.size(), want.size()); i++) {
            Due.is(call + " number " + i, got.get(i), want.get(i));
        }
    }

    /** All that can be found out, at the cost of the object. */
    private static List<Long> all(CrumbWood x) {
        List<Long> all = new ArrayList<>();
        all.add(x.digest());
        addWood(x, all);
        for (int k = 0; k < 3; k++) {
            all.add((long) x.on(k));
            all.add(x.digest());
            addWood(x, all);
        }
        return all;
    }

    private static void addWood(CrumbWood x, List<Long> all) {
        for (int place = 0; place < x.count(0); place++) {
            x.place(place, 0);
            all.add((long) (x.asked() == 3 ? x.mark(place, 3) : -1));
        }
        for (int i = 0; i < x.count(2); i++) {
            all.add((long) x.bird(i));
            all.add((long) x.asked());
        }
        all.add((long) x.here());
        all.add((long) x.home());
        all.add((long) x.waits());
    }
}
