/** The edges that "What it is" and the first half of "Terms" name: refusals, findings, chances, sets, sizes. */
final class EdgesOfTerms {
    private EdgesOfTerms() {
    }

    static void run() {
        calls();
        orderOfRefusals();
        none();
        findings();
        chances();
        sets();
        sizes();
    }

    private static void says(String sentence) {
        Sentences.says(Sentences.TERMS, sentence);
    }

    private static void calls() {
        Sentences.says(Sentences.CALLS,
            "An object is used for at most 512 calls after it has been made; what later calls answer is free.");
        CrumbWood x = new CrumbWood();
        for (int i = 1; i < 512; i++) {
            Due.is("tear(5), call " + i, x.tear(5), CrumbWood.FINDING);
        }
        Due.is("findings(1), call 512", x.findings(1), 511);
        CrumbWood y = new CrumbWood();
        Due.is("row(0, 1)", y.row(0, 1), 1);
        for (int i = 2; i < 512; i++) {
            Due.is("lay(0, 0, i), call " + i, y.lay(0, 0, i), 1);
        }
        Due.is("asked(), call 512", y.asked(), 510);
    }

    private static void orderOfRefusals() {
        says("Refused is, the first of these that fits, in this order: BAD -1 (a number that is none, or not as told), FULL -2,"
            + " STATE -4 (not now), SPENT -6 (more than told), FINDING -3 (finding() tells which), unless a call says so"
            + " otherwise.");
        Due.is("BAD", CrumbWood.BAD, -1);
        Due.is("FULL", CrumbWood.FULL, -2);
        Due.is("STATE", CrumbWood.STATE, -4);
        Due.is("SPENT", CrumbWood.SPENT, -6);
        Due.is("FINDING", CrumbWood.FINDING, -3);
        badAheadOfState();
        badAheadOfFinding();
        badAheadOfFull();
        stateAheadOfFinding();
    }

    private static void badAheadOfState() {
        Script.run("""
            drop(-1) = BAD; drop(3) = BAD; drop(0) = STATE
            hours(-1) = BAD; hours(41) = BAD; hours(0) = STATE
            led(-1) = BAD; led(6) = BAD; led(0) = STATE
            keep(-1) = BAD; keep(3) = BAD; keep(0) = STATE
            back(-1) = BAD; back(6) = BAD; back(0) = STATE
            fewest(-1, 0) = BAD; fewest(6, 0) = BAD; fewest(0, -1) = BAD; fewest(0, 41) = BAD; fewest(0, 0) = STATE
            surest(-1, 0) = BAD; surest(6, 0) = BAD; surest(0, -1) = BAD; surest(0, 41) = BAD; surest(0, 0) = STATE
            ways(-1) = BAD; ways(9) = BAD; ways(0) = STATE
            sure(-1) = BAD; sure(9) = BAD; sure(0) = STATE
            lots(0, 1) = BAD; lots(21, 1) = BAD; lots(1, 0) = BAD; lots(1, 2147483647) = BAD; lots(1, 1) = STATE
            text 0 "pp"
            wood(-1) = BAD; wood(4) = BAD; wood(0) = STATE
            """);
    }

    private static void badAheadOfFinding() {
        Script.run("""
            row(-1, -1) = BAD; row(6, -1) = BAD; row(5, -1) = SIZE
            text(-1, -1) = BAD; text(4, -1) = BAD; text(3, -1) = SIZE
            lay(-1, 0, 0) = BAD; lay(6, 0, 0) = BAD; lay(5, 0, 0) = NOTHING
            at(-1, 0) = BAD; at(6, 0) = BAD; at(5, 0) = NOTHING
            tear(-1) = BAD; tear(6) = BAD; tear(5) = NOTHING
            mean(-1) = BAD; mean(6) = BAD; mean(5) = NOTHING
            copy(-1, 0, 0, 0, -1) = BAD; copy(6, 0, 0, 0, -1) = BAD; copy(6, 0, 5, 0, 0) = BAD
            copy(0, 0, -1, 0, -1) = BAD; copy(0, 0, 6, 0, -1) = BAD; copy(5, 0, 6, 0, 0) = BAD
            copy(5, 0, 5, 0, 0) = NOTHING
            put(-1, 0, 0) = BAD; put(4, 0, 0) = BAD; put(3, 0, 0) = NOTHING
            fault(-1) = BAD; fault(4) = BAD; fault(3) = NOTHING
            wood(-1) = BAD; wood(4) = BAD; wood(3) = NOTHING
            on(-1) = BAD; on(3) = BAD; on(2) = NOTHING
            wood "pp-01k000"
            mark(-1, 1) = BAD; mark(2, 1) = BAD; mark(0, -1) = BAD; mark(0, 0) = BAD; mark(0, 6) = BAD; mark(0, 1) = UNLIKE
            fewest(5, -1) = BAD; fewest(5, 41) = BAD; fewest(5, 40) = NOTHING
            surest(5, -1) = BAD; surest(5, 41) = BAD; surest(5, 40) = NOTHING
            """);
    }

    private static void badAheadOfFull() {
        Script.run("""
            wood "pp-01k000"; 20 times fool(0, 1)
            fool(0, 1) = FULL; fool(0, 3) = BAD; fool(0, -1) = BAD; fool(-1, 1) = BAD; fool(2, 1) = BAD
            15 times lots(2, 1)
            lead(1) = FULL; lead(2) = BAD; lead(-1) = BAD
            lots(1, 1) = FULL; lots(21, 1) = BAD; lots(0, 1) = BAD; lots(1, 0) = BAD; lots(1, -1) = BAD
            """);
    }

    private static void stateAheadOfFinding() {
        Script.run("""
            fewest(5, 0) = STATE; surest(5, 0) = STATE      # NOTHING, too
            row(0, 9) = 9
            fewest(0, 0) = STATE; surest(0, 0) = STATE      # SIZE, too
            row(0, 1) = 1
            fewest(0, 0) = STATE; surest(0, 0) = STATE      # UNLIKE, too
            """);
    }

    private static void none() {
        says("NONE -9.");
        Due.is("NONE", CrumbWood.NONE, -9);
        Script.run("""
            wood "ppp-01-12k000"
            fault(0) = NONE; wrong() = NONE; waits() = NONE
            row 0: 1 2
            lead: 1 2
            path(0, 1, 0) = 1
            nearest() = NONE; row(0, 0) = 0; fewest(0, 0) = NONE; surest(0, 0) = NONE
            fool(0, 0) = 1; bare() = NONE
            """);
    }

    private static void findings() {
        says("FINDINGS: 1 NOTHING (a ROW, a TEXT, a kept WOOD that is missing)");
        Script.run("""
            finding() = 0
            at(0, 0) = NOTHING; finding() = 1
            fault(0) = NOTHING; finding() = 1
            on(0) = NOTHING; finding() = 1; findings(1) = 3
            """);
        says("2 BEYOND (a place of a ROW, a TEXT that there is not)");
        Script.run("""
            row(0, 3) = 3; at(0, 3) = BEYOND; finding() = 2
            text(0, 3) = 3; put(0, 3, 1) = BEYOND; finding() = 2; findings(2) = 2
            """);
        says("3 UNLIKE (a PLACE of another KIND; a number that is none)");
        Script.run("""
            wood "pp-01k000"; mark(0, 1) = UNLIKE; finding() = 3
            row 0: 2
            fewest(0, 0) = UNLIKE; finding() = 3; findings(3) = 2
            """);
        says("4 NOUGHT (shared among none)");
        Script.run("row(0, 0) = 0; mean(0) = NOUGHT; finding() = 4; findings(4) = 1");
        says("5 SIZE (fewer than none; too many).");
        Script.run("""
            row(0, -1) = SIZE; finding() = 5
            wood "pp-01k000"; row(0, 9) = 9; fewest(0, 0) = SIZE; finding() = 5; findings(5) = 2
            """);
    }

    private static void chances() {
        says("Chances are told by upper(), lower(), in lowest terms, the lower number above 0 (0 by 1).");
        // two CRUMBS each of which leads home, four that matter to nobody: 48 of 64
        Script.run("""
            upper() = 0; lower() = 1
            wood "pppppppp-01-02-13-23k000"; lead: 1 3
            odds() = 1 : 0/1
            4 times fool(4, 0); fool(5, 0) = 1; fool(6, 0) = 1; fool(7, 0) = 1; fool(0, 0) = 1
            odds() = 1 : 0/1; best() = 1 : 1/1
            fool(1, 0) = 1
            odds() = 1 : 1/2
            fool(2, 0) = 1
            odds() = 1 : 3/4
            upper() = 3; lower() = 4
            fool(2, 2) = 1
            odds() = 1 : 1/1
            """);
        // CRUMBS on all eight: of 256 cases none, then all of them
        CrumbWood x = Script.run("wood \"pppppppp-01-12k000\"");
        for (int place = 0; place < 8; place++) {
            x.fool(place, 0);
        }
        Script.on(x, """
            odds() = 1 : 1/1; best() = 0 : 1/1; lead: 1 2; odds() = 1 : 1/2; path(0, 1, 0) = 1; odds() = 1 : 0/1
            best() = 0 : 0/1
            """);
    }

    private static void sets() {
        says("Sets (of PLACES, of BIRDS) are told by bits.");
        Script.run("""
            wood "pppppppp-01-07-06-17v7k000"
            place(0, 1) = 1 : 194; place(7, 1) = 1 : 3; place(5, 1) = 1 : 0
            was(0, 0) = 128; was(0, 1) = 2
            row 0: 7 1 7; path(0, 7, 0) = 1; path(0, 1, 0) = 1; path(6, 7, 1) = 0
            row 0: 6 7
            fewest(0, 0) = 1 : 64
            fool(7, 1) = 1; fool(6, 1) = 1; lead(6) = 1; lead(7) = 2; ways(2) = 1 : 6; sure(2) = 193
            """);
    }

    private static void sizes() {
        says("======== 1 ROWS 0 .. 5 are rows of 0 to 40 ints, TEXTS 0 .. 3 rows of 0 to 80 bytes, or missing (at first).");
        Script.run("""
            count(7) = 0; count(8) = 0
            at(0, 0) = NOTHING; at(5, 0) = NOTHING; put(0, 0, 1) = NOTHING; put(3, 0, 1) = NOTHING
            row(0, 0) = 0; row(5, 40) = 40; row(6, 0) = BAD; row(-1, 0) = BAD; row(0, 41) = BAD
            text(0, 0) = 0; text(3, 80) = 80; text(4, 0) = BAD; text(-1, 0) = BAD; text(0, 81) = BAD
            count(7) = 2; count(8) = 2
            at(0, 0) = BEYOND; at(5, 39) = 1 : 0; at(5, 40) = BEYOND
            put(0, 0, 1) = BEYOND; put(3, 79, 1) = 1032; put(3, 80, 1) = BEYOND
            lay(5, 0, -2147483648) = 1 : 0; at(5, 0) = 1 : -2147483648
            lay(5, 39, 2147483647) = 1 : 0; at(5, 39) = 1 : 2147483647
            """);
    }
}
