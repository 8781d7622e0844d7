import java.util.function.Supplier;

/** What a refused call leaves as it was, and what a call leaves that only looks: on twins, what is kept too. */
final class EdgesOfRefusing {
    private EdgesOfRefusing() {
    }

    static void run() {
        Sentences.says(Sentences.TERMS, "What is refused changes nothing but finding(), findings().");
        refused(CrumbWood::new, """
            row(0, 41) = BAD; row(6, 0) = BAD; row(0, -1) = SIZE; lay(6, 0, 1) = BAD; lay(0, 0, 1) = NOTHING
            at(6, 0) = BAD; at(0, 0) = NOTHING; tear(6) = BAD; tear(0) = NOTHING; copy(6, 0, 0, 0, 0) = BAD
            copy(0, 0, 0, 0, -1) = SIZE; copy(0, 0, 0, 0, 0) = NOTHING; mean(6) = BAD; mean(0) = NOTHING
            text(0, 81) = BAD; text(4, 0) = BAD; text(0, -1) = SIZE; put(4, 0, 1) = BAD; put(0, 0, 1) = NOTHING
            fault(4) = BAD; fault(0) = NOTHING; wood(4) = BAD; wood(0) = NOTHING; place(0, 0) = BAD; mark(0, 1) = BAD
            path(0, 1, 1) = BAD; bird(0) = BAD; pocket(3) = BAD; lead(0) = BAD; lead(1) = BAD; drop(0) = STATE; drop(3) = BAD
            fool(0, 0) = BAD; take(0, 0) = BAD; hours(1) = STATE; hours(41) = BAD; here() = STATE; led(0) = STATE; led(6) = BAD
            keep(0) = STATE; keep(3) = BAD; on(0) = NOTHING; on(3) = BAD; home() = STATE; back(0) = STATE; back(6) = BAD
            wrong() = STATE; waits() = STATE; nearest() = STATE; fewest(0, 0) = STATE; fewest(6, 0) = BAD
            surest(0, 0) = STATE; surest(0, 41) = BAD; astray() = STATE; helps() = STATE; odds() = STATE; best() = STATE
            ways(0) = STATE; ways(9) = BAD; sure(0) = STATE; sure(9) = BAD; was(0, 0) = BAD; bare() = STATE
            lots(1, 1) = STATE; lots(0, 1) = BAD; count(11) = BAD; findings(0) = BAD; findings(6) = BAD
            """);
        refused(EdgesOfRefusing::fullWood, """
            row(0, 41) = BAD; row(-1, 3) = BAD; row(0, -1) = SIZE; lay(6, 0, 1) = BAD; lay(5, 0, 1) = NOTHING
            lay(0, 40, 1) = BEYOND; lay(0, -1, 1) = BEYOND; at(6, 0) = BAD; at(5, 0) = NOTHING; at(1, 0) = BEYOND
            tear(6) = BAD; tear(5) = NOTHING; copy(0, 0, 6, 0, 1) = BAD; copy(0, 0, 2, 0, -1) = SIZE
            copy(0, 0, 5, 0, 1) = NOTHING; copy(5, 0, 0, 0, 1) = NOTHING; copy(0, 0, 2, 0, 10) = BEYOND
            copy(2, 0, 0, 35, 9) = BEYOND; mean(6) = BAD; mean(5) = NOTHING; mean(1) = NOUGHT
            text(0, 81) = BAD; text(4, 0) = BAD; text(0, -1) = SIZE; put(4, 0, 1) = BAD; put(3, 0, 1) = NOTHING
            put(2, 0, 1) = BEYOND; put(0, -1, 1) = BEYOND; fault(-1) = BAD; fault(3) = NOTHING
            wood(4) = BAD; wood(3) = NOTHING; wood(1) = STATE; wood(2) = STATE
            place(8, 0) = BAD; place(0, 6) = BAD; mark(8, 1) = BAD; mark(0, 0) = BAD; mark(0, 1) = UNLIKE
            path(0, 0, 1) = BAD; path(0, 8, 1) = BAD; path(0, 1, 2) = BAD; bird(4) = BAD; pocket(-1) = BAD
            lead(8) = BAD; lead(2) = STATE; lead(5) = FULL; drop(3) = BAD; drop(2) = STATE; fool(8, 0) = BAD; fool(5, 1) = FULL
            take(0, 3) = BAD; take(-1, 0) = BAD; hours(41) = BAD; hours(-1) = BAD; led(6) = BAD; keep(3) = BAD; on(3) = BAD
            back(6) = BAD; fewest(6, 0) = BAD; fewest(0, 41) = BAD; fewest(5, 0) = NOTHING; fewest(2, 0) = SIZE
            fewest(3, 0) = UNLIKE; surest(-1, 0) = BAD; surest(0, -1) = BAD; surest(5, 0) = NOTHING; surest(2, 0) = SIZE
            surest(3, 0) = UNLIKE; ways(9) = BAD; sure(-1) = BAD; was(4, 0) = BAD; was(0, 41) = BAD
            lots(21, 1) = BAD; lots(1, 0) = BAD; lots(1, 1) = FULL; count(-1) = BAD; findings(6) = BAD
            """);
        aside();
    }

    private static void refused(Supplier<CrumbWood> make, String lines) {
        for (String line : lines.split("[\n;]")) {
            if (!line.isBlank()) {
                Twins.refused(make, line.trim());
            }
        }
    }

    private static void aside() {
        Sentences.says(Sentences.TERMS, "---- 3 home (aside).");
        lookOnly("home()", "wrong()", "waits()", "nearest()");
        Sentences.says(Sentences.TERMS,
            "---- 4 where to drop (aside: MARKS that lie stay, those of the plan are added).");
        lookOnly("fewest(4, 0)", "fewest(4, 40)", "surest(4, 0)", "surest(4, 40)", "astray()", "helps()");
        lookOnly("fault(0)", "fault(1)", "odds()", "best()", "ways(8)", "sure(8)", "was(0, 40)", "bare()", "bird(0)");
        Script.run("""
            wood "ppp-01-12k010"; fool(1, 0) = 1; row 0: 1 2
            fewest(0, 0) = 0 : 0
            take(1, 0) = 1
            fewest(0, 0) = 1 : 2                            # what lies stays: the CRUMB alone was enough
            fewest(0, 0) = 1 : 2; count(5) = 0; pocket(1) = 1; here() = 0 : 0
            """);
    }

    private static void lookOnly(String... calls) {
        for (String call : calls) {
            long answer = Script.call(fullWood(), call);
            Twins.aside(EdgesOfRefusing::fullWood, call + " = " + answer);
        }
    }

    /** 30 STEPS far, three other WOODS kept, ROWS and TEXTS of all sorts, CRUMBS washed away, all told. */
    private static CrumbWood fullWood() {
        CrumbWood x = new CrumbWood();
        Due.write(x, 0, "pgtbmcbp-01-12-23-34-45-56-67-70-13v0v1v4v7k993");
        x.wood(0);
        x.text(2, 0);
        Due.write(x, 1, "pp-01v2k000");
        lay(x);
        Due.lead(x, 1);
        x.drop(0);
        Due.lead(x, 2, 3);
        x.drop(0);
        x.drop(2);
        x.keep(0);
        x.hours(2);
        Due.lead(x, 4);
        x.drop(0);
        x.drop(1);
        x.fool(6, 0);
        x.keep(1);
        x.path(0, 4, 1);
        x.fool(3, 0);
        Due.lead(x, 5);
        x.drop(0);
        for (int i = 0; i < 20; i++) {
            x.fool(5, 1);
        }
        Due.lead(x, 6, 7, 0, 1, 2, 3, 4, 5);
        x.keep(2);
        x.drop(2);
        x.drop(2);
        x.fool(2, 0);
        x.fool(3, 0);
        for (int i = x.count(3); i < 30; i++) {
            Due.lead(x, i % 2 == 1 ? 4 : 5);
        }
        x.odds();
        x.tear(5);
        x.mark(0, 1);
        x.at(0, 1);
        return x;
    }

    private static void lay(CrumbWood x) {
        x.row(0, 40);
        x.lay(0, 1, 4711);
        x.row(1, 0);
        x.row(2, 9);
        Due.lay(x, 3, 5, 8);
        Due.lay(x, 4, 5, 6);
    }
}
