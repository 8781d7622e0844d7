/** The edges that promises 37 to 48 name: by what lies, by birds, lots, what is told. */
final class EdgesOfTelling {
    private static final String STAR = "wood \"pppppppp-01-02-03-04-05-06-07k900\"; ";

    private EdgesOfTelling() {
    }

    static void run() {
        ways();
        waysTold();
        sure();
        was();
        bare();
        lots();
        lotsRefused();
        asked();
        askedLeft();
        chances();
        count();
        findings();
        digest();
        digestOfAll();
    }

    private static void ways() {
        Sentences.says(37, "By how many ways of n (0 .. 8) STEPS from HOME to where they are they can have been LED, if on each PLACE of it"
            + " but the first one a MARK lies (whatever is SEEN);");
        Script.run("wood \"pp-01k000\"; ways(0) = 1; ways(1) = 0; ways(8) = 0; lead: 1; ways(0) = 0; ways(1) = 0; ways(8) = 0");
        // HOME needs no MARK as the first PLACE, but where the way comes to it again
        Script.run("""
            wood "pp-01k000"; lead: 1; fool(1, 0) = 1; ways(1) = 1; ways(3) = 0; fool(0, 2) = 1; ways(3) = 1; ways(7) = 1
            ways(8) = 0
            take(1, 0) = 1; ways(1) = 0; lead: 0; ways(0) = 1; ways(2) = 0; fool(1, 1) = 1; ways(2) = 1; ways(8) = 1
            take(0, 2) = 1; ways(2) = 0
            """);
        // in a THICKET, a CAVE a MARK lies unseen; what others tie in a MEADOW lies not; a BROOK's CRUMBS are gone
        Script.run("""
            wood "ptcp-01-12-23k000"; lead: 1 2 3; fool(1, 0) = 1; fool(2, 2) = 1; fool(3, 0) = 1; ways(3) = 1 : 1
            take(2, 2) = 1; ways(3) = 0
            """);
        Script.run("wood \"pmp-01-12k000\"; lead: 1 2; fool(2, 0) = 1; ways(2) = 0; fool(1, 2) = 1; ways(2) = 1");
        Script.run("wood \"pb-01k100\"; lead: 1; drop(0) = 0; ways(1) = 0; fool(1, 1) = 1; ways(1) = 1");
        // from HOME to HOME among all of eight: (7 to the 8th and 7) by 8
        CrumbWood all = Script.run("wood \"ppppppppk000\"");
        for (int x = 0; x < 8; x++) {
            all.fool(x, 2);
            for (int y = x + 1; y < 8; y++) {
                all.path(x, y, 1);
            }
        }
        Script.on(all, """
            ways(8) = 720601 : 1; ways(7) = 102942 : 1; ways(2) = 7 : 1; ways(1) = 0 : NONE; lead: 7; ways(8) = 720600 : 1
            ways(1) = 1 : 7
            """);
    }

    private static void waysTold() {
        Sentences.says(37, "the PLACE behind HOME on the first of them by asked() (NONE: none, or n is 0).");
        Script.run("""
            wood "ppppp-01-02-13-23-34k000"; ways(0) = 1 : NONE; lead: 2 3; fool(3, 1) = 1; here() = 3 : 2; ways(2) = 0 : NONE
            fool(2, 0) = 1; here() = 3 : 2; ways(2) = 1 : 2; fool(1, 0) = 1; ways(2) = 2 : 1; ways(0) = 0 : NONE
            ways(1) = 0 : NONE
            ways(4) = 4 : 1; path(0, 1, 0) = 1; ways(2) = 1 : 2; ways(4) = 2 : 2
            """);
        // 1 is the least beside HOME and marked, but no way goes on from there
        Script.run("wood \"pppp-01-02-23k000\"; lead: 2 3; fool(1, 0) = 1; fool(2, 0) = 1; fool(3, 0) = 1; ways(2) = 1 : 2");
        Sentences.says(37, "BAD; STATE: no PLACES.");
        EdgesOfRows.bad(Script.run("ways(0) = STATE; ways(8) = STATE"), "ways(?)", 9);
        EdgesOfRows.bad(Script.run("wood \"pp-01k000\"; ways(8) = 0; here() = 0 : 0"), "ways(?)", 9);
    }

    private static void sure() {
        Sentences.says(38, "PLACES (bits) that are on each of these ways (HOME, where they are, too; 0: none is).");
        Script.run("""
            wood "pppppppp-01-02-03-17-27-37-47k000"; sure(0) = 1; sure(1) = 0; lead: 1 7; sure(0) = 0; sure(2) = 0
            fool(7, 0) = 1
            sure(2) = 0; fool(1, 0) = 1; sure(2) = 131; fool(2, 0) = 1; sure(2) = 129; fool(3, 0) = 1; sure(2) = 129
            sure(3) = 0; sure(1) = 0
            take(1, 0) = 1; take(2, 0) = 1; sure(2) = 137; sure(4) = 137; sure(8) = 137; fool(4, 0) = 1; sure(4) = 137
            take(7, 0) = 1; sure(2) = 0
            """);
        Script.run("""
            wood "ppp-01-12-20k000"; fool(0, 1) = 1; fool(1, 1) = 1; fool(2, 1) = 1; sure(3) = 7; sure(2) = 1; sure(0) = 1
            sure(8) = 1
            """);
        // on each of the ways, though not on all PLACES of one: by 3 alone they come to 4
        Script.run("""
            wood "ppppp-01-02-13-23-34k000"; lead: 1 3 4; fool(1, 0) = 1; fool(2, 2) = 1; fool(3, 1) = 1; fool(4, 1) = 1
            sure(3) = 25; take(2, 2) = 1; sure(3) = 27
            """);
        Sentences.says(38, "BAD; STATE: no PLACES.");
        EdgesOfRows.bad(Script.run("sure(0) = STATE; sure(8) = STATE"), "sure(?)", 9);
        EdgesOfRows.bad(Script.run("wood \"pp-01k000\"; sure(8) = 0"), "sure(?)", 9);
    }

    private static void was() {
        Sentences.says(39, "PLACES (bits) on which a BIRD can have been n (0 .. 40) HOURS ago, by how it flies.");
        Script.run("""
            wood "pppppppp-07-17-27-37-47-57-67v7v0v1k000"
            was(0, 0) = 128; was(0, 1) = 127; was(0, 2) = 128; was(0, 39) = 127; was(0, 40) = 128
            was(1, 0) = 1; was(1, 1) = 128; was(1, 2) = 127; was(1, 40) = 127
            was(2, 0) = 2; was(2, 1) = 0; was(2, 2) = 0; was(2, 40) = 0
            path(7, 0, 0) = 1; was(1, 0) = 1; was(1, 1) = 1; was(1, 40) = 1; was(2, 1) = 128; was(2, 40) = 126; bird(0) = 7
            """);
        // by how it flies, not by where it was: an HOUR later they fly otherwise
        Script.run("""
            wood "ppp-01-12v0k000"; hours(1) = 0; was(0, 1) = 5; path(1, 2, 0) = 1; was(0, 1) = 1; path(0, 1, 0) = 1
            was(0, 1) = 2; was(0, 40) = 2
            """);
        Sentences.says(39, "BAD.");
        EdgesOfRows.bad(Script.run("was(0, 0) = BAD; wood \"ppk000\"; was(0, 0) = BAD"), "was(?, 0)", 0);
        CrumbWood x = Script.run("wood \"ppv0v1v0v1k000\"; was(3, 40) = 2");
        EdgesOfRows.bad(x, "was(?, 0)", 4);
        EdgesOfRows.bad(x, "was(0, ?)", 41);
        EdgesOfRows.bad(x, "was(?, 41)", 4);
    }

    private static void bare() {
        Sentences.says(40, "How many HOURS (0 .. 60) till all CRUMBS are eaten.");
        Script.run("""
            wood "pppppppp-01-12-23-34-45-56-67v0k000"; bare() = 0; fool(0, 0) = 1; bare() = 1; 20 times fool(1, 0)
            bare() = 2; fool(7, 0) = 1; bare() = 8
            take(0, 0) = 1; bare() = 8; hours(7) = 20; bare() = 1; hours(1) = 1; bare() = 0; bird(0) = 6
            """);
        Script.run("wood \"pb-01k000\"; bare() = 0; fool(1, 0) = 0; bare() = 0; fool(0, 1) = 1; fool(0, 2) = 1; bare() = 0");
        // two BIRDS: till the later one is through
        Script.run("wood \"pppppp-01-34-45v0v3k000\"; fool(1, 0) = 1; bare() = 2; fool(5, 0) = 1; bare() = 3; count(4) = 2");
        Script.run("wood \"gpp-01-02v0k000\"; fool(0, 0) = 1; fool(1, 0) = 1; fool(2, 0) = 1; bare() = 1");
        Sentences.says(40, "NONE: not in these.");
        Script.run("wood \"ppp-01k000\"; fool(0, 0) = 1; bare() = NONE; take(0, 0) = 1; bare() = 0");
        Script.run("""
            wood "ppp-01v0k000"; fool(2, 0) = 1; bare() = NONE; hours(40) = 0; bare() = NONE; path(1, 2, 1) = 0; bare() = 3
            """);
        // eaten from the GLADE, but the THICKET beside it never
        Script.run("wood \"gtp-01-02v0k000\"; fool(1, 0) = 1; bare() = 2; path(0, 1, 0) = 1; bare() = NONE");
        Sentences.says(40, "STATE: no PLACES.");
        Script.run("bare() = STATE; text 0 \"pp\"; wood(0) = STATE; bare() = STATE");
    }

    private static void lots() {
        Sentences.says(41, "LED by LOTS of a seed: n (1 .. 20) STEPS:");
        Script.run("wood \"pp-01k000\"; lots(1, 1) = 1; here() = 1 : 1; lots(20, 1) = 20; here() = 1 : 21; count(3) = 21");
        Sentences.says(41, "a number comes from the one ahead by 48271 times it modulo 2147483647, the first from the seed (1 .. 2147483646):");
        // from 1: 48271, 182605794, 1291394886, 1914720637, 2078669041, 407355683
        Script.run(STAR + "lots(6, 1) = 6; led(0) = 7; cells 0: 0 7 0 6 0 2 0; pocket(0) = 5; place(0, 2) = 1 : 2; place(6, 2) = 1 : 1; place(2, 2) = 1 : 1; count(4) = 4");
        // from the last seed: 2147435376, 1964877853, 856088761, 232763010, 68814606, 1740127964
        Script.run(STAR + "lots(6, 2147483646) = 6; led(0) = 7; cells 0: 0 3 0 4 0 1 0; pocket(0) = 7; place(3, 2) = 1 : 1; place(0, 2) = 1 : 1");
        // the seed alone tells it, not what was drawn ahead of it
        Script.run(STAR + "lots(2, 1) = 2; lots(2, 1) = 2; led(0) = 5; cells 0: 0 7 0 7 0");
        Sentences.says(41, "to the PLACE beside at it modulo how many there are (the least first);");
        // 48271 is 0 modulo 1, 1 modulo 2, 1 modulo 3, 3 modulo 4, 1 modulo 5, 1 modulo 6, 6 modulo 7
        Script.run(STAR + """
            keep(0) = 0; lots(1, 1) = 1; here() = 7 : 1; on(0) = 0; path(0, 1, 0) = 1; lots(1, 1) = 1; here() = 3 : 1
            on(0) = 0; path(0, 7, 0) = 1; path(0, 1, 0) = 1; lots(1, 1) = 1; here() = 3 : 1; lots(1, 1) = 1; here() = 0 : 2
            on(0) = 0; path(0, 1, 0) = 1; path(0, 2, 0) = 1; path(0, 3, 0) = 1; lots(1, 1) = 1; here() = 7 : 1
            on(0) = 0; path(0, 2, 0) = 1; path(0, 4, 0) = 1; path(0, 5, 0) = 1; path(0, 6, 0) = 1; lots(1, 1) = 1; here() = 3 : 1
            path(0, 3, 0) = 1; path(3, 4, 1) = 0; path(3, 7, 1) = 0; lots(1, 1) = 1; here() = 7 : 2
            """);
        // beside 2 are 0, 1, 3, 4, 5: of these 182605794, 4 modulo 5, is at the last; then 1291394886, 1 modulo 5, at the second
        Script.run("wood \"pppppp-01-02-03-04-05-21-23-24-25-51-53-54k000\"; lots(3, 1) = 3; led(0) = 4; cells 0: 0 2 5 1");
        Sentences.says(41, "and, if it by 64, cut, is odd, they DROP a CRUMB there, if they have one;");
        // 48271 by 64 is 754, 2147435376 by 64 is 33553677, 241355 by 64 is 3771
        Script.run("wood \"pp-01k955\"; lots(1, 1) = 1; pocket(0) = 9; count(4) = 0; lots(1, 5) = 1; pocket(0) = 8; place(0, 2) = 1 : 1; lots(1, 2147483646) = 1;"
            + " pocket(0) = 7; place(1, 2) = 1 : 1; pocket(1) = 5; pocket(2) = 5");
        Script.run(STAR.replace("k900", "k100") + "lots(6, 1) = 6; pocket(0) = 0; count(4) = 1; place(0, 2) = 1 : 1");
        Script.run(STAR.replace("k900", "k099") + "lots(6, 1) = 6; led(0) = 7; cells 0: 0 7 0 6 0 2 0; pocket(0) = 0; count(4) = 0; count(5) = 0");
        Script.run("wood \"bb-01k900\"; lots(4, 1) = 4; count(4) = 0; pocket(0) = 6; mark(0, 3) = 2; mark(1, 3) = 1");
        Sentences.says(41, "without a PLACE beside it ends: how many STEPS.");
        Script.run("""
            wood "ppk900"; lots(20, 5) = 0; here() = 0 : 0; pocket(0) = 9; path(0, 1, 1) = 0; lots(2, 5) = 2
            path(0, 1, 0) = 1; lots(1, 5) = 0; here() = 0 : 2
            """);
    }

    private static void lotsRefused() {
        Sentences.says(41, "BAD; STATE: no PLACES;");
        CrumbWood none = Script.run("lots(1, 1) = STATE; lots(20, 2147483646) = STATE");
        CrumbWood x = Script.run("wood \"pp-01k900\"");
        for (CrumbWood each : new CrumbWood[] {none, x}) {
            EdgesOfRows.bad(each, "lots(?, 1)", 21);
            EdgesOfRows.bad(each, "lots(1, ?)", Integer.MAX_VALUE);
            Script.on(each, """
                lots(0, 1) = BAD; lots(1, 0) = BAD; lots(21, 0) = BAD; lots(21, 1) = BAD; lots(20, 2147483647) = BAD
                """);
        }
        Script.on(x, "lots(20, 1) = 20; wood(0) = 2; lots(1, 2147483646) = 1");
        Sentences.says(41, "FULL: with n more there would be more than 30. (FULL last.)");
        Script.run("""
            wood "pp-01k000"; lots(20, 1) = 20; lots(11, 1) = FULL; lots(20, 1) = FULL; here() = 0 : 20; lots(10, 1) = 10
            here() = 0 : 30
            lots(1, 1) = FULL; lots(20, 1) = FULL; lots(21, 1) = BAD; lots(0, 1) = BAD; lots(1, 0) = BAD; path(0, 1, 0) = 1
            lots(1, 1) = FULL
            """);
        Script.run("wood \"pp-01k000\"; lots(20, 1) = 20; lots(9, 1) = 9; lots(2, 1) = FULL; lots(1, 1) = 1; count(3) = 30");
        // no PLACE beside, so that no STEP would come: FULL is told all the same
        Script.run("wood \"pp-01k000\"; lots(20, 1) = 20; path(0, 1, 0) = 1; lots(10, 1) = 0; lots(11, 1) = FULL");
    }

    private static void asked() {
        Sentences.says(42, "What the latest lay(), at(), mean(), place(), bird(), here(), home(), nearest(), fewest(), surest(), ways()");
        Script.run("""
            wood "pppp-01-12-23v1k321"; lead: 1 2; fool(1, 0) = 1
            row(0, 2) = 2; lay(0, 1, 8) = 1 : 0; lay(0, 1, 9) = 1 : 8; asked() = 8; at(0, 1) = 1 : 9; asked() = 9
            mean(0) = 1 : 4; asked() = 4
            place(2, 1) = 1 : 10; bird(0) = 1 : 2; here() = 2 : 2; home() = 1 : 2; fool(2, 2) = 1; ways(2) = 1 : 1
            row 1: 3; nearest() = 2 : 1; fewest(1, 0) = 0 : 0; take(2, 2) = 1; fewest(1, 0) = 1 : 4; path(0, 3, 1) = 0
            here() = 2 : 2; surest(1, 0) = 0 : 0
            """);
        // and no other call: each one that could, behind an at() that told 77
        Script.run("""
            wood "pppp-01-12-23v1k321"; lead: 1 2; row 0: 77 1; at(0, 0) = 1 : 77
            row(1, 3) = 3; copy(0, 0, 1, 0, 1) = 1; tear(1) = 1; text(1, 3) = 3; put(1, 0, 9) = 1032; fault(1) = 0
            fault(0) = NONE; mark(0, 1) = UNLIKE
            path(0, 3, 1) = 0; path(0, 3, 0) = 1; pocket(0) = 3; lead(3) = 3; drop(0) = 2; fool(1, 0) = 1; take(1, 0) = 1
            hours(1) = 0; led(2) = 4
            keep(0) = 3; on(0) = 3; back(2) = 1; wrong() = NONE; waits() = 0; astray() = 0; helps() = 0; odds() = 1
            best() = 0; sure(3) = 0; was(0, 1) = 10
            bare() = 2; lots(1, 1) = 1; count(0) = 4; finding() = 3; findings(3) = 1; upper() = 0; lower() = 1; wood(0) = 4
            asked() = 77
            """);
        Script.run("wood \"pg-01k000\"; row 0: 5; at(0, 0) = 1 : 5; mark(1, 1) = 0; asked() = 5");
    }

    private static void askedLeft() {
        Sentences.says(42, "that was not refused (nor NONE, but as told) told;");
        Script.run("""
            wood "ppp-01-12v1k000"; row 0: 5; row(1, 0) = 0; row(2, 9) = 9; at(0, 0) = 1 : 5
            lay(6, 0, 1) = BAD; lay(5, 0, 1) = NOTHING; lay(0, 1, 1) = BEYOND; at(6, 0) = BAD; at(5, 0) = NOTHING
            at(0, 1) = BEYOND
            mean(6) = BAD; mean(5) = NOTHING; mean(1) = NOUGHT; place(3, 0) = BAD; place(0, 6) = BAD; bird(1) = BAD
            fewest(6, 0) = BAD; fewest(5, 0) = NOTHING; fewest(2, 0) = SIZE; fewest(0, 0) = UNLIKE; surest(0, 41) = BAD
            surest(0, 0) = UNLIKE
            ways(9) = BAD; ways(-1) = BAD; asked() = 5
            lead: 1 2; path(0, 1, 0) = 1; nearest() = NONE; fewest(1, 0) = NONE; surest(1, 0) = NONE; asked() = 5
            ways(2) = 0 : NONE; asked() = -9
            """);
        Script.run("""
            row 0: 5; at(0, 0) = 1 : 5; here() = STATE; home() = STATE; nearest() = STATE; fewest(0, 0) = STATE
            surest(0, 0) = STATE; ways(0) = STATE; asked() = 5
            """);
        Sentences.says(42, "0 before.");
        Script.run("asked() = 0; at(0, 0) = NOTHING; asked() = 0; wood \"ppk000\"; asked() = 0; row(0, 3) = 3; asked() = 0");
    }

    private static void chances() {
        Sentences.says(43, "The upper number of the chances that were told last; 0 before.");
        Sentences.says(44, "Its lower number; 1 before.");
        Script.run("""
            upper() = 0; lower() = 1; odds() = STATE; best() = STATE; upper() = 0; lower() = 1
            wood "pppp-01-12-23k000"; upper() = 0; lower() = 1; lead: 1 2 3; fool(1, 0) = 1; fool(2, 0) = 1; odds() = 1 : 1/4
            upper() = 1; lower() = 4
            best() = 1 : 1/2; upper() = 1; lower() = 2; take(1, 0) = 1; take(2, 0) = 1; upper() = 1; lower() = 2; wood(0) = 4
            upper() = 1; lower() = 2
            odds() = 1 : 1/1; lead: 1 2; odds() = 1 : 0/1; upper() = 0; lower() = 1
            """);
    }

    private static void count() {
        Sentences.says(45, "0 PLACES, 1 PATHS, 2 BIRDS, 3 STEPS, 4 CRUMBS, 5 STONES, 6 KNOTS that lie, 7 ROWS, 8 TEXTS that are there,"
            + " 9 kept WOODS, 10 THICKETS (CAVES, too).");
        Script.run("""
            wood "pgtbmctc-01-12-23-34-45-56-67-70-04-15-26-37-02-13v0v1v2v3k999"; count(0) = 8; count(1) = 14; count(2) = 4
            count(10) = 4
            count(3) = 0; count(4) = 0; count(5) = 0; count(6) = 0; count(7) = 0; count(8) = 1; count(9) = 0; pocket(0) = 9
            9 times drop(0); 2 times drop(1); fool(4, 2) = 1; fool(3, 0) = 0; 20 times fool(7, 1); count(4) = 9; count(5) = 22; count(6) = 1
            row(0, 0) = 0; row(1, 0) = 0; row(2, 0) = 0; row(3, 0) = 0; row(4, 0) = 0; row(5, 0) = 0; count(7) = 6
            tear(3) = 1; count(7) = 5
            text(1, 0) = 0; text(2, 0) = 0; text(3, 0) = 0; text(3, 1) = 1; count(8) = 4
            keep(0) = 0; keep(1) = 0; count(9) = 2; keep(2) = 0; count(9) = 3; lots(20, 1) = 20; count(3) = 20; on(1) = 0
            count(3) = 0; count(9) = 3
            """);
        Script.run("wood \"mmgbpk000\"; count(10) = 0; wood \"ccttccttk000\"; count(10) = 8; count(1) = 0; count(2) = 0");
        Sentences.says(45, "BAD.");
        EdgesOfRows.bad(Script.run("count(0) = 0; count(10) = 0"), "count(?)", 11);
        EdgesOfRows.bad(Script.run("wood \"ppk000\"; count(10) = 0"), "count(?)", 11);
    }

    private static void findings() {
        Sentences.says(46, "The latest FINDING (0 before any).");
        Script.run("""
            finding() = 0; row(6, 0) = BAD; here() = STATE; finding() = 0; row(0, -1) = SIZE; finding() = 5; row(6, 0) = BAD
            finding() = 5
            tear(0) = NOTHING; finding() = 1; row(0, 0) = 0; finding() = 1; at(0, 0) = BEYOND; finding() = 2; mean(0) = NOUGHT
            finding() = 4
            wood "ppk000"; finding() = 4; mark(0, 1) = UNLIKE; finding() = 3; nearest() = 0; finding() = 3
            """);
        Sentences.says(47, "How often a FINDING (1 .. 5) was answered.");
        Script.run("""
            findings(1) = 0; findings(2) = 0; findings(3) = 0; findings(4) = 0; findings(5) = 0
            tear(0) = NOTHING; row(0, 0) = 0; at(0, 0) = BEYOND; at(0, 1) = BEYOND; mean(0) = NOUGHT; wood "ppk000"
            mark(0, 1) = UNLIKE; mark(0, 2) = UNLIKE; mark(0, 3) = UNLIKE; text(0, -1) = SIZE; lead(2) = BAD; lead(1) = STATE
            findings(1) = 1; findings(2) = 2; findings(3) = 3; findings(4) = 1; findings(5) = 1
            """);
        Sentences.says(47, "BAD.");
        EdgesOfRows.bad(Script.run("findings(0) = BAD; findings(1) = 0; findings(5) = 0; tear(0) = NOTHING; findings(0) = BAD"), "findings(?)", 6);
    }

    private static void digest() {
        Sentences.says(48, "h = 17; then h = 31 h + v for each v: count() 0 to 10; pocket() 0 to 2; of each PLACE place() 0 to 5;"
            + " of each BIRD its PLACE; the PLACES by which THE CHILDREN were LED, from HOME on;");
        long missing = Due.fold(17, new int[14]);
        for (int i = 0; i < 13; i++) {
            missing = Due.fold(missing, -1);
        }
        Script.run("digest() = " + missing + "; digest() = " + missing);
        // 30 STEPS, and no more than a sum that wraps around
        CrumbWood far = Script.run("wood \"pm-01v0v1k123\"; fool(1, 0) = 1; lots(20, 5) = 20; lots(10, 5) = 10; take(0, 0) = 0");
        long h = Due.fold(17, 2, 1, 2, 30, 2, 0, 0, 0, 1, 0, 0, 0, 2, 3, 0, 2, 0, 0, 0, 0, 4, 1, 2, 0, 0, 5, 0, 1);
        for (int i = 0; i <= 30; i++) {
            h = Due.fold(h, i % 2);
        }
        h = Due.fold(h, -1, -1, -1, -1, -1, -1, -1, -1, -1, 13);
        for (char sign : "pm-01v0v1k123".toCharArray()) {
            h = Due.fold(h, sign);
        }
        Script.on(far, "digest() = " + Due.fold(h, -1, -1, -1));
    }

    private static void digestOfAll() {
        Sentences.says(48, "of each kept WOOD how many STEPS (-1: missing); of each ROW its size (-1: missing) and places, of each TEXT likewise.");
        CrumbWood x = Script.run("""
            wood "pp-01k000"; keep(0) = 0; lots(20, 1) = 20; lots(10, 1) = 10; keep(2) = 30; on(0) = 0
            row(0, 0) = 0; row 5: 2147483647 -2147483648; text(1, 0) = 0; text(3, 4) = 4
            put(3, 0, 255) = 1032; put(3, 1, 128) = 1032; put(3, 2, 127) = 1032; text(0, 1) = 1
            """);
        long h = Due.fold(17, 2, 1, 0, 0, 0, 0, 0, 2, 3, 2, 0, 0, 0, 0, 0, 2, 0, 0, 0, 0, 0, 1, 0, 0, 0, 0, 0);
        h = Due.fold(h, 0, -1, 30);
        h = Due.fold(h, 0, -1, -1, -1, -1, 2, Integer.MAX_VALUE, Integer.MIN_VALUE);
        h = Due.fold(h, 1, 32, 0, -1, 4, -1, -128, 127, 32);
        Script.on(x, "digest() = " + h + "; digest() = " + h);
        Script.on(x, "tear(0) = 1; row(0, 0) = 0; digest() = " + h + "; lead(1) = 1; on(0) = 0; digest() = " + h);
    }
}
