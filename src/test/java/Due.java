/** What the tests share: a tally of wrong answers, and woods by their text. */
final class Due {
    private static int asked = 0;
    private static int wrong = 0;
    private static String about = "";

    private Due() {
    }

    /** What stands ahead of each wrong answer that is printed from now on. */
    static void about(String words) {
        about = words;
    }

    /** One answer against the one that is due. */
    static void is(String call, long got, long want) {
        asked++;
        if (got != want) {
            wrong++;
            System.out.println(about + call + " answered " + got + ", due is " + want);
        }
    }

    /** A refusal by a FINDING: which, and that it is counted, and that nothing else changed. */
    static void found(String call, CrumbWood x, java.util.function.IntSupplier run, int finding) {
        int before = x.findings(finding);
        long digest = x.digest();
        int asked = x.asked();
        is(call, run.getAsInt(), CrumbWood.FINDING);
        is(call + " finding()", x.finding(), finding);
        is(call + " findings()", x.findings(finding), before + 1);
        is(call + " digest()", x.digest(), digest);
        is(call + " asked()", x.asked(), asked);
    }

    /** A refusal that is no FINDING, and that nothing at all changed. */
    static void refused(String call, CrumbWood x, java.util.function.IntSupplier run, int want) {
        long digest = x.digest();
        int asked = x.asked();
        int finding = x.finding();
        long upper = x.upper();
        long lower = x.lower();
        is(call, run.getAsInt(), want);
        is(call + " digest()", x.digest(), digest);
        is(call + " asked()", x.asked(), asked);
        is(call + " finding()", x.finding(), finding);
        is(call + " upper()", x.upper(), upper);
        is(call + " lower()", x.lower(), lower);
    }

    /** An answer of 1, with what asked() then tells. */
    static void told(String call, CrumbWood x, int got, int want) {
        is(call, got, 1);
        is(call + " asked()", x.asked(), want);
    }

    /** An answer, and what asked() then tells. */
    static void both(String call, CrumbWood x, int got, int want, int asked) {
        is(call, got, want);
        is(call + " asked()", x.asked(), asked);
    }

    static void chances(String call, CrumbWood x, long upper, long lower) {
        is(call + " upper()", x.upper(), upper);
        is(call + " lower()", x.lower(), lower);
    }

    /** The digest's way: 31 times what is ahead, and each value, with Java's wrap-around. */
    static long fold(long h, int... values) {
        long on = h;
        for (int v : values) {
            on = 31 * on + v;
        }
        return on;
    }

    static void write(CrumbWood x, int t, String text) {
        x.text(t, text.length());
        for (int i = 0; i < text.length(); i++) {
            x.put(t, i, text.charAt(i));
        }
    }

    static void lay(CrumbWood x, int r, int... cells) {
        x.row(r, cells.length);
        for (int i = 0; i < cells.length; i++) {
            x.lay(r, i, cells[i]);
        }
    }

    static void cells(String call, CrumbWood x, int r, int... cells) {
        for (int i = 0; i < cells.length; i++) {
            told(call + " at(" + r + ", " + i + ")", x, x.at(r, i), cells[i]);
        }
        is(call + " behind its end", x.at(r, cells.length), CrumbWood.FINDING);
    }

    static CrumbWood wood(String text) {
        CrumbWood x = new CrumbWood();
        write(x, 0, text);
        long places = x.wood(0);
        if (places < 2) {
            is("wood " + text, places, 2);
        }
        return x;
    }

    static void lead(CrumbWood x, int... places) {
        for (int place : places) {
            if (x.lead(place) < 0) {
                is("lead(" + place + ") on the way there", 0, 1);
            }
        }
    }

    static void end() {
        System.out.println(asked + " answers, " + wrong + " wrong");
        if (wrong != 0 || asked == 0) {
            System.exit(1);
        }
    }
}
