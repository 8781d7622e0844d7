/** The edges that promises 12 to 25 name: PLACES, PATHS, BIRDS, POCKETS; led, dropped, eaten, kept. */
final class EdgesOfPlaces {
    private EdgesOfPlaces() {
    }

    static void run() {
        place();
        mark();
        markRefused();
        path();
        bird();
        pocket();
        lead();
        drop();
        fool();
        take();
        hours();
        here();
        led();
        keep();
        on();
    }

    private static void place() {
        Sentences.says(12, "Of a PLACE: 0 its KIND, 1 PLACES beside it (bits), 2 CRUMBS, 3 STONES, 4 KNOTS that lie there,"
            + " 5 what is SEEN there from beside (1 CRUMBS, 2 STONES, 4 KNOTS, together), told by asked(): 1.");
        Script.run("""
            wood "pgtbmcpp-01-07-67k000"
            place(0, 0) = 1 : 0; place(5, 0) = 1 : 5; place(7, 0) = 1 : 0; place(0, 1) = 1 : 130; place(7, 1) = 1 : 65
            place(2, 1) = 1 : 0
            place(7, 2) = 1 : 0; place(7, 3) = 1 : 0; place(7, 4) = 1 : 0; place(7, 5) = 1 : 0
            20 times fool(7, 0); 2 times fool(7, 1); 3 times fool(7, 2)
            place(7, 2) = 1 : 20; place(7, 3) = 1 : 2; place(7, 4) = 1 : 3; place(7, 5) = 1 : 7
            take(7, 1) = 2; place(7, 3) = 1 : 0; place(7, 5) = 1 : 5; place(4, 5) = 1 : 4; place(4, 4) = 1 : 0
            """);
        Sentences.says(12, "BAD.");
        CrumbWood x = Script.run("place(0, 0) = BAD; place(-1, 0) = BAD; wood \"ppk000\"; place(1, 0) = 1; place(0, 5) = 1 : 0");
        EdgesOfRows.bad(x, "place(?, 0)", 2);
        EdgesOfRows.bad(x, "place(0, ?)", 6);
        Script.run("wood \"ppppppppk000\"; place(7, 5) = 1 : 0; place(8, 0) = BAD; place(7, 6) = BAD; place(7, -1) = BAD");
    }

    private static void mark() {
        Sentences.says(13, "What a PLACE that IS of a KIND tells: a GLADE (MEADOW, too) how many CRUMBS a BIRD there would eat"
            + " in an HOUR,");
        for (char letter : "gm".toCharArray()) {
            // no BIRD is there: it only would
            Script.run("wood \"p" + letter + "tcbgmp-10-12-13-14-15-16k000\"" + """
                ; mark(1, 1) = 0; 3 times fool(1, 0); mark(1, 1) = 3; fool(2, 0) = 1; fool(3, 0) = 1; fool(4, 0) = 0; fool(7, 0) = 1
                mark(1, 1) = 3; fool(5, 0) = 1; fool(6, 0) = 1; fool(0, 0) = 1; mark(1, 1) = 6; path(1, 7, 1) = 0; mark(1, 1) = 7
                fool(1, 1) = 1; fool(1, 2) = 1; mark(1, 1) = 7; path(1, 0, 0) = 1; mark(1, 1) = 6; mark(1, 1) = 6; count(4) = 9
                """);
        }
        Sentences.says(13, "a THICKET (CAVE, too) how many MARKS lie there that are not SEEN,");
        Script.run("""
            wood "ptc-01-12k000"; mark(1, 2) = 0; mark(2, 2) = 0
            2 times fool(1, 0); 3 times fool(1, 1); 4 times fool(1, 2); mark(1, 2) = 6; take(1, 0) = 2; mark(1, 2) = 4
            2 times fool(2, 0); 3 times fool(2, 1); 4 times fool(2, 2); mark(2, 2) = 9; take(2, 1) = 3; mark(2, 2) = 6
            """);
        Sentences.says(13, "a BROOK how many CRUMBS were dropped there (washed away since the WOOD came, or as it was kept),");
        Script.run("""
            wood "pb-01k911"; mark(1, 3) = 0; lead(1) = 1; drop(0) = 8; mark(1, 3) = 1; keep(0) = 1
            drop(1) = 0; drop(2) = 0; mark(1, 3) = 1; drop(0) = 7; keep(1) = 1; lots(4, 1) = 4; fool(1, 0) = 0; take(1, 0) = 0
            hours(1) = 0; on(1) = 1; mark(1, 3) = 2; on(0) = 1; mark(1, 3) = 1; drop(0) = 7; mark(1, 3) = 2
            on(0) = 1; mark(1, 3) = 1; wood(0) = 2; mark(1, 3) = 0
            """);
        Sentences.says(13, "a MEADOW how many KNOTS lie there truly,");
        Script.run("""
            wood "pm-01k000"; place(1, 5) = 1 : 4; mark(1, 4) = 0; 2 times fool(1, 2); mark(1, 4) = 2; take(1, 2) = 2
            mark(1, 4) = 0
            """);
        Sentences.says(13, "a CAVE how many PLACES beside it are THICKETS (CAVES, too).");
        Script.run("""
            wood "pcctgbmt-10-14-15-16k000"; mark(1, 5) = 0; path(1, 3, 1) = 0; mark(1, 5) = 1; path(1, 2, 1) = 0; mark(1, 5) = 2
            mark(2, 5) = 1; path(1, 7, 1) = 0; mark(1, 5) = 3; path(2, 1, 0) = 1; mark(1, 5) = 2; mark(2, 5) = 0
            """);
    }

    private static void markRefused() {
        Sentences.says(13, "BAD: also KIND 0; UNLIKE.");
        CrumbWood x = Script.run("mark(0, 1) = BAD; mark(0, 0) = BAD; wood \"pgtbmcpp-01k000\"; mark(7, 1) = UNLIKE; mark(1, 1) = 0");
        EdgesOfRows.bad(x, "mark(?, 1)", 8);
        EdgesOfRows.bad(x, "mark(1, ?)", 6);
        for (int place = 0; place < 6; place++) {
            Script.on(x, "mark(" + place + ", 0) = BAD");
        }
    }

    private static void path() {
        Sentences.says(14, "A PATH between two PLACES (1), or none (0): what it was.");
        Script.run("""
            wood "pppppppp-07k000"
            path(0, 7, 1) = 1; path(7, 0, 1) = 1; path(7, 0, 0) = 1; path(0, 7, 0) = 0; count(1) = 0; place(0, 1) = 1 : 0
            place(7, 1) = 1 : 0
            path(7, 0, 1) = 0; path(0, 7, 1) = 1; count(1) = 1; place(0, 1) = 1 : 128; place(7, 1) = 1 : 1
            lead(7) = 1; path(0, 7, 0) = 1; here() = 7 : 1; lead(0) = STATE; led(0) = 2; cells 0: 0 7
            """);
        // 14 at most is said of a TEXT alone
        CrumbWood all = Script.run("wood \"ppppppppk000\"");
        for (int x = 0; x < 8; x++) {
            for (int y = x + 1; y < 8; y++) {
                Script.on(all, "path(" + x + ", " + y + ", 1) = 0; path(" + y + ", " + x + ", 1) = 1");
            }
        }
        Script.on(all, "count(1) = 28; place(3, 1) = 1 : 247");
        Sentences.says(14, "BAD: also to itself.");
        CrumbWood x = Script.run("path(0, 1, 1) = BAD; path(0, 0, 0) = BAD; wood \"ppp-01k000\"; path(0, 2, 1) = 0");
        Script.on(x, "path(0, 0, 1) = BAD; path(0, 0, 0) = BAD; path(2, 2, 1) = BAD; path(-1, -1, 1) = BAD; path(3, 3, 0) = BAD");
        EdgesOfRows.bad(x, "path(?, 1, 1)", 3);
        EdgesOfRows.bad(x, "path(1, ?, 1)", 3);
        EdgesOfRows.bad(x, "path(0, 1, ?)", 2);
        EdgesOfRows.bad(x, "path(0, 2, ?)", 2);
    }

    private static void bird() {
        Sentences.says(15, "The PLACE of a BIRD; where it flies next by asked().");
        Script.run("""
            wood "pppppppp-02-12-27v0v1v2v7k000"
            bird(0) = 0 : 2; bird(1) = 1 : 2; bird(2) = 2 : 7; bird(3) = 7 : 2
            path(2, 7, 0) = 1; bird(2) = 2 : 0; bird(3) = 7 : 7; path(0, 2, 0) = 1; bird(2) = 2 : 1; bird(0) = 0 : 0
            hours(1) = 0; bird(0) = 0 : 0; bird(1) = 2 : 1; bird(2) = 1 : 2; bird(3) = 7 : 7
            """);
        Sentences.says(15, "BAD.");
        CrumbWood x = Script.run("bird(0) = BAD; wood \"ppk000\"; bird(0) = BAD; wood \"ppv0v1k000\"; bird(1) = 1 : 1");
        EdgesOfRows.bad(x, "bird(?)", 2);
        EdgesOfRows.bad(Script.run("wood \"ppv0v1v0v1k000\"; bird(3) = 1 : 1"), "bird(?)", 4);
    }

    private static void pocket() {
        Sentences.says(16, "How many of a MARK are in the POCKETS.");
        Script.run("""
            pocket(0) = 0; pocket(1) = 0; pocket(2) = 0; wood "pp-01k907"; pocket(0) = 9; pocket(1) = 0; pocket(2) = 7
            9 times drop(0); pocket(0) = 0; pocket(2) = 7; take(0, 0) = 9; pocket(0) = 0; fool(0, 2) = 1; pocket(2) = 7
            """);
        Sentences.says(16, "BAD.");
        EdgesOfRows.bad(new CrumbWood(), "pocket(?)", 3);
        EdgesOfRows.bad(Script.run("wood \"ppk999\""), "pocket(?)", 3);
    }

    private static void lead() {
        Sentences.says(17, "THE CHILDREN are LED to a PLACE: how many STEPS they went.");
        Script.run("""
            wood "pppppppp-07-71k000"; lead(7) = 1; here() = 7 : 1; lead(1) = 2; here() = 1 : 2; lead(7) = 3; lead(0) = 4
            here() = 0 : 4
            count(3) = 4; led(0) = 5; cells 0: 0 7 1 7 0
            """);
        Sentences.says(17, "BAD; STATE: not beside;");
        CrumbWood x = Script.run("lead(0) = BAD; wood \"ppp-01k000\"; lead(0) = STATE; lead(2) = STATE; lead(1) = 1; lead(1) = STATE; lead(2) = STATE");
        EdgesOfRows.bad(new CrumbWood(), "lead(?)", 0);
        EdgesOfRows.bad(x, "lead(?)", 3);
        Sentences.says(17, "FULL: 30 STEPS. (FULL last.)");
        CrumbWood full = Script.run("""
            wood "ppp-01k000"; lots(20, 1) = 20; lots(9, 1) = 9; here() = 1 : 29; lead(0) = 30; here() = 0 : 30
            lead(1) = FULL; lead(2) = STATE; lead(0) = STATE; here() = 0 : 30; led(0) = 31
            """);
        EdgesOfRows.bad(full, "lead(?)", 3);
        Script.on(full, "keep(0) = 30; wood(0) = 3; lead(1) = 1; keep(1) = 1; on(1) = 1; lead(0) = 2");
    }

    private static void drop() {
        Sentences.says(18, "They DROP a MARK where they are: how many of it are left in the POCKETS.");
        Script.run("""
            wood "ppb-01-12k921"; drop(0) = 8; 7 times drop(0); drop(0) = 0; place(0, 2) = 1 : 9; lead(1) = 1
            drop(1) = 1; drop(1) = 0; drop(2) = 0; place(1, 3) = 1 : 2; place(1, 4) = 1 : 1; place(1, 2) = 1 : 0
            """);
        Script.run("wood \"bpk211\"; drop(0) = 1; drop(0) = 0; count(4) = 0; mark(0, 3) = 2; drop(0) = STATE; mark(0, 3) = 2");
        // FULL is said of fool() alone
        Script.run("wood \"ppk900\"; 20 times fool(0, 0); drop(0) = 8; place(0, 2) = 1 : 21");
        Sentences.says(18, "BAD; STATE: none is.");
        CrumbWood x = Script.run("drop(0) = STATE; wood \"ppk010\"; drop(0) = STATE; drop(2) = STATE; drop(1) = 0; drop(1) = STATE");
        EdgesOfRows.bad(x, "drop(?)", 3);
        EdgesOfRows.bad(new CrumbWood(), "drop(?)", 3);
    }

    private static void fool() {
        Sentences.says(19, "A brother lays a wrong MARK on a PLACE (from nowhere; CRUMBS in a BROOK are gone at once):"
            + " how many of it lie there.");
        Script.run("""
            wood "ppb-01-12k111"; fool(0, 0) = 1; fool(0, 0) = 2; fool(1, 1) = 1; fool(2, 2) = 1; fool(2, 1) = 1
            pocket(0) = 1; pocket(1) = 1; pocket(2) = 1; drop(0) = 0; fool(0, 0) = 4
            fool(2, 0) = 0; fool(2, 0) = 0; place(2, 2) = 1 : 0; mark(2, 3) = 2
            """);
        Sentences.says(19, "BAD; FULL: 20 or more lie there.");
        for (int m = 0; m < 3; m++) {
            String call = "fool(1, " + m + ")";
            Script.run("wood \"pp-01k999\"; 18 times " + call + "; " + call + " = 19; " + call + " = 20; " + call + " = FULL; " + call
                + " = FULL; lead(1) = 1; drop(" + m + ") = 8; place(1, " + (2 + m) + ") = 1 : 21; " + call + " = FULL; take(1, " + m
                + ") = 21; " + call + " = 1; fool(0, " + m + ") = 1");
        }
        // CRUMBS never lie in a BROOK, so that there it is never FULL
        Script.run("""
            wood "bpk000"; 40 times fool(0, 0); fool(0, 0) = 0; mark(0, 3) = 41; 20 times fool(0, 1); fool(0, 1) = FULL
            fool(0, 0) = 0
            """);
        CrumbWood x = Script.run("fool(0, 0) = BAD; wood \"ppk000\"; 20 times fool(1, 2); fool(1, 2) = FULL");
        EdgesOfRows.bad(x, "fool(?, 0)", 2);
        EdgesOfRows.bad(x, "fool(1, ?)", 3);
    }

    private static void take() {
        Sentences.says(20, "All of a MARK on a PLACE are taken away: how many.");
        Script.run("""
            wood "pb-01k100"; take(0, 0) = 0; take(1, 2) = 0; 20 times fool(0, 0); drop(0) = 0; fool(0, 1) = 1; fool(1, 1) = 1
            take(0, 0) = 21; place(0, 2) = 1 : 0; take(0, 0) = 0; place(0, 3) = 1 : 1; place(1, 3) = 1 : 1; pocket(0) = 0
            fool(1, 0) = 0; take(1, 0) = 0; mark(1, 3) = 1
            """);
        Sentences.says(20, "BAD.");
        CrumbWood x = Script.run("take(0, 0) = BAD; wood \"ppk000\"; fool(1, 2) = 1");
        EdgesOfRows.bad(x, "take(?, 2)", 2);
        EdgesOfRows.bad(x, "take(1, ?)", 3);
        Script.on(x, "take(1, 2) = 1");
    }

    private static void hours() {
        Sentences.says(21, "n (0 .. 40) HOURS go by: how many CRUMBS were eaten.");
        Script.run("""
            wood "ppp-01-12v0k000"; 3 times fool(0, 0); 2 times fool(1, 0); fool(2, 0) = 1
            hours(0) = 0; bird(0) = 0; hours(1) = 3; bird(0) = 1; hours(0) = 0; hours(2) = 3; bird(0) = 1; fool(1, 0) = 1
            hours(1) = 1
            hours(1) = 0; hours(40) = 0; bird(0) = 1
            """);
        // 40 HOURS are ten rounds of four; 39 end ahead of it
        Script.run("wood \"pppp-01-12-23-30v0k000\"; hours(40) = 0; bird(0) = 0; hours(39) = 0; bird(0) = 3");
        Script.run("wood \"ppk000\"; 20 times fool(1, 0); hours(40) = 0; count(4) = 20");
        Sentences.says(21, "BAD; STATE: no PLACES.");
        CrumbWood x = Script.run("hours(0) = STATE; hours(1) = STATE; hours(40) = STATE");
        EdgesOfRows.bad(x, "hours(?)", 41);
        EdgesOfRows.bad(Script.run("wood \"ppv0k000\"; fool(0, 0) = 1"), "hours(?)", 41);
    }

    private static void here() {
        Sentences.says(22, "Where THE CHILDREN are; how many STEPS they went by asked().");
        Script.run("""
            wood "pp-01k000"; here() = 0 : 0; lead(1) = 1; here() = 1 : 1; lots(20, 1) = 20; lots(9, 1) = 9; here() = 0 : 30
            """);
        Sentences.says(22, "STATE: no PLACES.");
        Script.run("""
            here() = STATE; text 0 "pp"; wood(0) = STATE; here() = STATE; row 0: 3; at(0, 0) = 1 : 3; here() = STATE
            asked() = 3
            """);
    }

    private static void led() {
        Sentences.says(23, "The PLACES by which they were LED, from HOME on, come to a ROW (anew): how many.");
        CrumbWood x = Script.run("""
            wood "ppp-01-12k000"; led(0) = 1; cells 0: 0; lead: 1 2; row(5, 40) = 40; lay(5, 39, 7) = 1; led(5) = 3
            cells 5: 0 1 2
            row(4, 0) = 0; led(4) = 3; cells 4: 0 1 2; count(7) = 3
            """);
        Script.on(x, """
            lead: 1; 13 times lots(2, 1); lead: 2; led(1) = 31; at(1, 0) = 1 : 0; at(1, 3) = 1 : 1; at(1, 30) = 1 : 2
            at(1, 31) = BEYOND
            """);
        Sentences.says(23, "BAD; STATE: no PLACES.");
        EdgesOfRows.bad(x, "led(?)", 6);
        EdgesOfRows.bad(Script.run("led(0) = STATE; led(5) = STATE; row 0: 1 2; led(0) = STATE; cells 0: 1 2"), "led(?)", 6);
    }

    private static void keep() {
        Sentences.says(24, "The WOOD (MARKS, POCKETS, BIRDS, PATHS, THE CHILDREN) is kept in a place (0 .. 2): how many STEPS.");
        Script.run("""
            wood "pp-01k000"; keep(0) = 0; count(9) = 1; lead(1) = 1; keep(2) = 1; count(9) = 2; keep(2) = 1; count(9) = 2
            lots(20, 1) = 20; lots(9, 1) = 9; keep(1) = 30; count(9) = 3; here() = 0 : 30; keep(0) = 30; on(0) = 30; on(2) = 1
            """);
        Sentences.says(24, "BAD; STATE: no PLACES.");
        CrumbWood x = Script.run("keep(0) = STATE; keep(2) = STATE; count(9) = 0; on(0) = NOTHING");
        EdgesOfRows.bad(x, "keep(?)", 3);
        EdgesOfRows.bad(Script.run("wood \"ppk000\""), "keep(?)", 3);
    }

    private static void on() {
        Sentences.says(25, "The WOOD is as it was kept: how many STEPS.");
        Script.run("""
            wood "ppb-01-12v0v1k333"; lead: 1 2; drop(0) = 2; drop(1) = 2; fool(0, 0) = 1; fool(1, 2) = 1; keep(1) = 2
            lead: 1; drop(0) = 1; drop(1) = 1; drop(2) = 2; take(2, 1) = 1; take(1, 2) = 2; path(0, 1, 0) = 1
            path(0, 2, 1) = 0; hours(1) = 2
            row 0: 5; text(3, 2) = 2; on(1) = 2
            here() = 2 : 2; led(2) = 3; cells 2: 0 1 2; pocket(0) = 2; pocket(1) = 2; pocket(2) = 3
            place(2, 3) = 1 : 1; place(0, 2) = 1 : 1; place(1, 4) = 1 : 1; place(1, 2) = 1 : 0; place(1, 3) = 1 : 0
            count(1) = 2; place(0, 1) = 1 : 2; bird(0) = 0 : 1; bird(1) = 1 : 2; mark(2, 3) = 1
            cells 0: 5; count(8) = 2; count(9) = 1
            lead: 1; hours(2) = 1; on(1) = 2; here() = 2 : 2; place(0, 2) = 1 : 1; on(1) = 2
            """);
        Script.run("""
            wood "pp-01k000"; keep(0) = 0; lots(20, 1) = 20; lots(10, 1) = 10; keep(1) = 30; on(0) = 0; lead(1) = 1
            on(1) = 30; lead(1) = FULL
            """);
        // the last of 30 STEPS, and the one ahead of it, led elsewhere in the WOOD that is gone on from
        Script.run("""
            wood "pppp-01-02-13-23k000"; 14 times lots(2, 1); keep(0) = 28; lead: 1 3; keep(1) = 30; on(0) = 28; lead: 2
            keep(2) = 29; lead: 0
            here() = 0 : 30; on(1) = 30; here() = 3 : 30; led(0) = 31; at(0, 29) = 1 : 1; at(0, 30) = 1 : 3; on(2) = 29
            here() = 2 : 29; lead: 0
            on(1) = 30; here() = 3 : 30; wrong() = NONE; lead(1) = FULL
            """);
        Sentences.says(25, "BAD; NOTHING.");
        CrumbWood x = Script.run("on(0) = NOTHING; wood \"pp-01k000\"; on(0) = NOTHING; keep(1) = 0; on(0) = NOTHING; on(2) = NOTHING; on(1) = 0; lead(1) = 1");
        EdgesOfRows.bad(x, "on(?)", 3);
        Script.on(x, "wood(0) = 2; on(1) = NOTHING");
    }
}
