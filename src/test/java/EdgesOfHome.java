/** The edges that promises 26 to 36 name: home, where to drop, chances. */
final class EdgesOfHome {
    private static final String CHAIN = "wood \"pppppppp-01-12-23-34-45-56-67k000\"; ";
    private static final String FAN = "wood \"pppppppp-01-02-03-04-05-06-17-27-37-47-57-67k000\"; ";

    private EdgesOfHome() {
    }

    static void run() {
        home();
        back();
        wrong();
        waits();
        nearest();
        fewestOfAWay();
        fewest();
        surest();
        plansRefused();
        astray();
        helps();
        odds();
        best();
    }

    private static void noPlaces(int promise, String sentence, String call) {
        Sentences.says(promise, sentence);
        Script.run(call + " = STATE; text 0 \"ppk00\"; wood(0) = STATE; " + call + " = STATE; row 0: 1; " + call + " = STATE");
    }

    private static void home() {
        Sentences.says(26, "Whether they FOLLOW HOME (1, 0); in how many STEPS, or till they are LOST, by asked().");
        Script.run(CHAIN + """
            home() = 1 : 0; lead: 1; home() = 1 : 1; lead: 2; home() = 0 : 0; lead: 3 4 5 6 7; home() = 0 : 0
            fool(6, 0) = 1; home() = 0 : 1; fool(5, 1) = 1; fool(4, 2) = 1; fool(3, 0) = 1; fool(2, 1) = 1; home() = 0 : 5
            fool(1, 0) = 1; home() = 1 : 7; fool(0, 1) = 1; fool(7, 1) = 1; home() = 1 : 7; here() = 7 : 7
            """);
        // LOST on the last PLACE that there is
        Script.run(CHAIN + "lead: 1; path(0, 1, 0) = 1; " + foolAll("2") + "home() = 0 : 6");
        noPlaces(26, "STATE: no PLACES.", "home()");
    }

    /** A MARK on each PLACE but HOME. */
    private static String foolAll(String mark) {
        StringBuilder calls = new StringBuilder();
        for (int x = 1; x < 8; x++) {
            calls.append("fool(").append(x).append(", ").append(mark).append(") = 1; ");
        }
        return calls.toString();
    }

    private static void back() {
        Sentences.says(27, "The PLACES by which they FOLLOW, from where they are on, come to a ROW (anew): how many.");
        CrumbWood x = Script.run(CHAIN + """
            back(0) = 1; cells 0: 0; lead: 1; row(5, 40) = 40; back(5) = 2; cells 5: 1 0; lead: 2; back(5) = 1; cells 5: 2
            lead: 3 4 5 6 7;\s""" + foolAll("0") + """
            back(1) = 8; cells 1: 7 6 5 4 3 2 1 0; take(3, 0) = 1; back(1) = 4; cells 1: 7 6 5 4; asked() = 4
            count(7) = 3; here() = 7 : 7
            """);
        Sentences.says(27, "BAD; STATE: no PLACES.");
        EdgesOfRows.bad(x, "back(?)", 6);
        EdgesOfRows.bad(Script.run("row 0: 1 2; back(0) = STATE; back(5) = STATE; cells 0: 1 2"), "back(?)", 6);
    }

    private static void wrong() {
        Sentences.says(28, "The first STEP of these that is not the STEP back by which they were LED (0, 1, ..; the last PLACE led to"
            + " is gone back from first, and so on);");
        Script.run("wood \"pppp-01-02-13-23k000\"; lead: 1 3; fool(2, 0) = 1; wrong() = 0; fool(1, 0) = 1; wrong() = NONE");
        Script.run(CHAIN + "lead: 1 2 3 4 5 6 7; " + foolAll("0") + """
            wrong() = NONE; path(0, 2, 1) = 0; wrong() = 5; path(0, 4, 1) = 0; wrong() = 3; path(0, 6, 1) = 0; wrong() = 1
            path(0, 7, 1) = 0; wrong() = 0
            """);
        // to and fro: the STEP back is the latest one, not the first that was ever gone
        Script.run("""
            wood "pppp-01-02-12-23k000"; lead: 1 2 0 2; wrong() = NONE; lead: 1; wrong() = 0; lead: 0 1; wrong() = NONE
            """);
        // wrong already at the first STEP, though HOME is found in the same number of them
        Script.run("wood \"pppp-01-02-13-23k000\"; lead: 2 3; fool(1, 1) = 1; home() = 1 : 2; wrong() = 0");
        Sentences.says(28, "NONE: none is (as far as both go).");
        Script.run(CHAIN + """
            wrong() = NONE; lead: 1; wrong() = NONE; lead: 2 3 4; wrong() = NONE; fool(3, 0) = 1; wrong() = NONE; home() = 0 : 1
            fool(2, 0) = 1; wrong() = NONE; home() = 0 : 2
            """);
        // they are HOME long before all that they were LED is gone back
        Script.run("""
            wood "pp-01k000"; lead: 1 0 1 0 1; home() = 1 : 1; wrong() = NONE; lead: 0; home() = 1 : 0; wrong() = NONE
            """);
        noPlaces(28, "STATE: no PLACES.", "wrong()");
    }

    private static void waits() {
        Sentences.says(29, "In how many HOURS from now (1 .. 60) they are first LOST, if they wait so long (0: they are now).");
        Script.run("""
            wood "ppp-01-12v1k000"; lead: 1 2; waits() = 0; fool(1, 0) = 1; waits() = 1; bird(0) = 1; count(4) = 1
            hours(1) = 1; waits() = 0
            """);
        // by 3, 4, 5, 6, 7 to 1
        Script.run("""
            wood "pppppppp-01-12-34-45-56-67-71v3k000"; lead: 1 2; fool(1, 0) = 1; waits() = 6; bare() = 6
            hours(1) = 0; waits() = 5; hours(4) = 0; waits() = 1; home() = 1 : 2; hours(1) = 1; waits() = 0
            """);
        // LOST in an HOUR, found again in two, LOST again in three
        Script.run("""
            wood "pppppp-01-13-23-43-04-52v1v5k000"; lead: 1 3; fool(1, 0) = 1; fool(2, 0) = 1; fool(4, 0) = 1
            waits() = 1; hours(1) = 1; home() = 0 : 1; waits() = 0; hours(1) = 1; home() = 1 : 2; waits() = 1; hours(1) = 1
            waits() = 0
            """);
        Sentences.says(29, "NONE: not in these.");
        Script.run("wood \"ppp-01-12v1k000\"; waits() = NONE; lead: 1; waits() = NONE; lead: 2; fool(1, 1) = 1; waits() = NONE");
        Script.run("wood \"ppp-01-12k000\"; lead: 1 2; fool(1, 0) = 1; waits() = NONE");
        Script.run("""
            wood "ppppp-01-12-34v3k000"; lead: 1 2; fool(1, 0) = 1; waits() = NONE; hours(40) = 0; hours(40) = 0
            home() = 1 : 2
            """);
        noPlaces(29, "STATE: no PLACES.", "waits()");
    }

    private static void nearest() {
        Sentences.says(30, "The fewest STEPS to HOME by PATHS, whatever lies; by how many such ways by asked().");
        Script.run(CHAIN + "nearest() = 0 : 1; lead: 1; nearest() = 1 : 1; lead: 2 3 4 5 6 7; nearest() = 7 : 1; path(0, 7, 1) = 0; nearest() = 1 : 1");
        Script.run(FAN + "lead: 1 7; nearest() = 2 : 6; fool(1, 1) = 1; nearest() = 2 : 6; path(0, 6, 0) = 1; nearest() = 2 : 5");
        Script.run("""
            wood "ppppppp-01-02-13-14-15-23-24-25-36-46-56k000"; lead: 1 3 6; nearest() = 3 : 6; path(0, 1, 0) = 1
            nearest() = 3 : 3
            """);
        Script.run("""
            wood "cmctbg-01-12-23-34-45k000"; lead: 1 2 3 4 5; nearest() = 5 : 1; path(0, 4, 1) = 0; nearest() = 2 : 1
            """);
        Sentences.says(30, "NONE: none.");
        Script.run("""
            wood "ppp-01-12k000"; lead: 1 2; path(0, 1, 0) = 1; nearest() = NONE; fool(1, 1) = 1; nearest() = NONE
            path(1, 2, 0) = 1; nearest() = NONE
            """);
        Script.run("wood \"ppk000\"; nearest() = 0 : 1");
        noPlaces(30, "STATE: no PLACES.", "nearest()");
    }

    private static void fewestOfAWay() {
        Sentences.says(31, "LED by a ROW (PLACES behind where they are, each beside the one ahead; 8 at most):");
        Script.run(CHAIN + """
            row(0, 0) = 0; fewest(0, 0) = 0 : 0; row 0: 1; fewest(0, 0) = 0 : 0; row 0: 1 2; fewest(0, 0) = 1 : 2
            row 0: 1 2 3 4 5 6 7; fewest(0, 0) = 6 : 126; row 0: 1 2 3 4 5 6 7 6; fewest(0, 0) = 5 : 62
            row 0: 1 0 1 0 1 0 1 2; fewest(0, 0) = 1 : 2; row 0: 1 2 1 2 1 2 1 0; fewest(0, 0) = 0 : 0
            row 5: 1 0 1 0 1 0 1 0 1; fewest(5, 0) = SIZE
            """);
        Sentences.says(31, "the fewest PLACES of it and of where they are now on each of which a STONE has to be dropped (from nowhere)");
        Script.run("""
            wood "pppp-01-12-23k000"; lead: 1 2; row 0: 3; fewest(0, 0) = NONE; row(1, 0) = 0; fewest(1, 0) = NONE
            fool(1, 0) = 1; fewest(1, 0) = 0 : 0; fewest(0, 0) = 1 : 4; row 0: 1 2 3; take(1, 0) = 1; fewest(0, 0) = 2 : 6
            pocket(1) = 0; count(5) = 0; here() = 2 : 2
            """);
        // where they are is no PLACE of the ROW, but a STONE on it is what is wanted
        Script.run("wood \"ppp-01-12k000\"; lead: 1; row 0: 2; fewest(0, 0) = 1 : 2; row 0: 0 1 2; fewest(0, 0) = 1 : 2");
        // a STONE in a CAVE is not SEEN, in a THICKET, a BROOK it is
        Script.run("wood \"pcp-01-12k000\"; row 0: 1 2; fewest(0, 0) = NONE");
        Script.run("wood \"ptbp-01-12-23k000\"; row 0: 1 2 3; fewest(0, 0) = 2 : 6");
    }

    private static void fewest() {
        Sentences.says(31, "so that behind n (0 .. 40) HOURS they FOLLOW HOME from its last one;");
        Script.run("""
            wood "pppp-01-12-23v0k000"; fool(1, 0) = 1; fool(2, 0) = 1; row 0: 1 2 3
            fewest(0, 0) = 0 : 0; fewest(0, 1) = 0 : 0; fewest(0, 2) = 1 : 2; fewest(0, 3) = 2 : 6; fewest(0, 40) = 2 : 6
            bird(0) = 0; count(4) = 2
            """);
        // a CRUMB that leads astray is eaten by then
        Script.run("""
            wood "ppppp-02-13-23-14v4k000"; fool(1, 0) = 1; fool(2, 0) = 1; row 0: 2 3; fewest(0, 0) = 1 : 4
            fewest(0, 1) = 1 : 4; fewest(0, 2) = 0 : 0
            """);
        Sentences.says(31, "which (bits; the least) by asked().");
        Script.run("wood \"pppp-01-02-13-23k000\"; row 0: 2 3 1 3; fewest(0, 0) = 1 : 2; row 0: 2 3; fewest(0, 0) = 1 : 4");
        Script.run("""
            wood "ppppp-01-12-24-03-34k000"; row 0: 1 2 4 3 4; fewest(0, 0) = 1 : 8; row 0: 1 2 4; fewest(0, 0) = 2 : 6
            """);
        // two of four: 1 and 3, 2 and 4 are alike, and so the lower bits are told
        Script.run("wood \"pppppp-01-02-13-24-35-45k000\"; row 0: 2 4 5 3 1 3 5; fewest(0, 0) = 2 : 10");
        Sentences.says(31, "NONE: none so.");
        Script.run("""
            wood "pppp-01-12-23k000"; lead: 1 2; path(0, 1, 0) = 1
            row 0: 1; here() = 2 : 2; fewest(0, 0) = NONE; asked() = 2; row(0, 0) = 0; fewest(0, 40) = NONE; row 0: 3 2 1
            fewest(0, 0) = NONE
            """);
        // a STONE that lies leads astray, and comes ahead of all that can be dropped
        Script.run("""
            wood "pppp-02-13-23k000"; fool(1, 1) = 1; row 0: 2 3; fewest(0, 0) = NONE; take(1, 1) = 1; fewest(0, 0) = 1 : 4
            """);
    }

    private static void surest() {
        Sentences.says(32, "Likewise so that they do, also if all MARKS of any one PLACE were gone then.");
        Script.run("""
            wood "pppp-01-02-13-23k000"; row 0: 1 3; surest(0, 0) = NONE; fewest(0, 0) = 1 : 2; row 0: 1 3 2 3
            surest(0, 0) = 2 : 6
            row(1, 0) = 0; surest(1, 0) = 0 : 0; row 1: 1; surest(1, 0) = 0 : 0
            fool(2, 0) = 1; row 0: 1 3; surest(0, 0) = 1 : 2; fool(1, 2) = 1; surest(0, 0) = 0 : 0
            """);
        // a KNOT and a STONE on one PLACE are gone together
        Script.run("wood \"ppp-01-12k000\"; fool(1, 2) = 1; row 0: 1 2; fewest(0, 0) = 0 : 0; surest(0, 0) = NONE");
        // it must hold as all lies, too, not only with one PLACE's MARKS gone
        Script.run("""
            wood "ppppp-01-13-23-24k000"; fool(2, 2) = 1; fool(1, 0) = 1; row 0: 1 3; fewest(0, 0) = 1 : 2
            surest(0, 0) = NONE
            """);
        // what others tie in a MEADOW is SEEN there still
        Script.run("wood \"pmp-01-12k000\"; row 0: 1 2; surest(0, 0) = 0 : 0; fool(1, 1) = 1; surest(0, 0) = 0 : 0");
        // behind HOURS: what is eaten then is of no help
        Script.run("""
            wood "pppp-01-02-13-23v2k000"; fool(1, 2) = 1; fool(2, 0) = 1; row 0: 2 3; surest(0, 0) = 0 : 0
            surest(0, 1) = 1 : 4; surest(0, 40) = 1 : 4
            """);
        Script.run(CHAIN + "row 0: 1 2 3 4 5 6 7 6; surest(0, 0) = NONE; path(0, 6, 1) = 0; surest(0, 0) = 0 : 0");
        Script.run("""
            wood "pppp-01-12-23-03k000"; lead: 1 2; row(0, 0) = 0; surest(0, 0) = NONE; fool(1, 0) = 1; fool(3, 0) = 1
            surest(0, 0) = 0 : 0
            """);
        Sentences.says(32, "NONE.");
        Script.run("""
            wood "ppp-01-12k000"; here() = 0 : 0; row 0: 1 2; surest(0, 0) = NONE; asked() = 0; fool(1, 1) = 1
            surest(0, 40) = NONE
            """);
    }

    private static void plansRefused() {
        for (String call : new String[] {"fewest", "surest"}) {
            if (call.equals("fewest")) {
                Sentences.says(31, "BAD; STATE: no PLACES; NOTHING; SIZE: more than 8; UNLIKE: no PLACE, one not beside the one ahead."
                    + " (In this order.)");
            } else {
                Sentences.says(32, "BAD; STATE; NOTHING; SIZE; UNLIKE. (In this order.)");
            }
            planRefused(call);
        }
    }

    private static void planRefused(String call) {
        CrumbWood none = Script.run("row 1: 7; row(2, 9) = 9; row(3, 0) = 0");
        EdgesOfRows.bad(none, call + "(?, 0)", 6);
        EdgesOfRows.bad(none, call + "(5, ?)", 41);
        Script.on(none, "?(5, 0) = STATE; ?(1, 0) = STATE; ?(2, 40) = STATE; ?(3, 0) = STATE".replace("?", call));
        CrumbWood x = Script.run("wood \"ppp-01k000\"; row(2, 9) = 9; row(3, 40) = 40; row(4, 8) = 8; here() = 0 : 0");
        EdgesOfRows.bad(x, call + "(?, 0)", 6);
        EdgesOfRows.bad(x, call + "(5, ?)", 41);
        EdgesOfRows.bad(x, call + "(2, ?)", 41);
        Script.on(x, """
            ?(5, 0) = NOTHING; ?(5, 40) = NOTHING; ?(2, 0) = SIZE; ?(3, 0) = SIZE; ?(4, 0) = UNLIKE
            row 0: 1 0 1 0 1 0 1 0; ?(0, 0) = 0 : 0; row 0: 1 0 1 0 1 0 1 0 1; ?(0, 0) = SIZE
            row 0: 3; ?(0, 0) = UNLIKE; row 0: -1; ?(0, 0) = UNLIKE; row 0: 1 3; ?(0, 0) = UNLIKE; row 0: 1 -1; ?(0, 0) = UNLIKE
            row 0: 2147483647; ?(0, 0) = UNLIKE; row 0: -2147483648; ?(0, 0) = UNLIKE; row 0: 32; ?(0, 0) = UNLIKE; row 0: 33
            ?(0, 0) = UNLIKE
            row 0: 2; ?(0, 0) = UNLIKE; row 0: 0; ?(0, 0) = UNLIKE; row 0: 1 1; ?(0, 0) = UNLIKE; row 0: 1 2; ?(0, 0) = UNLIKE
            row 0: 1 0 1 0 1 0 1 2; ?(0, 0) = UNLIKE; lead: 1; row 0: 1; ?(0, 0) = UNLIKE; row 0: 0; ?(0, 0) = 0 : 0
            """.replace("?", call));
    }

    private static void astray() {
        Sentences.says(33, "PLACES (bits) on which one STONE more, laid by a brother, would make them LOST, though they FOLLOW HOME now"
            + " (0: they do not now).");
        Script.run("""
            wood "pppppppp-01-12-23-24-25-26-27k000"; astray() = 0; lead: 1; astray() = 0; lead: 2; astray() = 0; fool(1, 0) = 1
            astray() = 248; fool(1, 2) = 1; astray() = 248; 20 times fool(1, 1); astray() = 0; count(5) = 20; take(1, 1) = 20
            astray() = 248
            20 times fool(7, 1); home() = 0 : 1; astray() = 0
            """);
        // on where they are, on HOME, in a CAVE it leads nobody astray; in a THICKET it does
        Script.run("wood \"pppct-01-12-23-24k000\"; lead: 1 2; fool(1, 2) = 1; astray() = 16");
        Script.run("""
            wood "ppptmgb-01-12-23-25-26k000"; lead: 1 2; fool(1, 2) = 1; astray() = 104; take(1, 2) = 1; fool(1, 1) = 1
            astray() = 0
            """);
        Script.run("wood \"mppm-01-12-23k000\"; lead: 1 2; fool(1, 2) = 1; home() = 1 : 2; astray() = 8");
        // further on, too: from 3 to 2 they go anyhow, and there to 4
        Script.run("wood \"ppppp-01-12-23-24k000\"; lead: 1 2 3; fool(1, 0) = 1; fool(2, 0) = 1; astray() = 16");
        noPlaces(33, "STATE: no PLACES.", "astray()");
    }

    private static void helps() {
        Sentences.says(34, "PLACES (bits) on which one STONE would lead them HOME, though they are LOST now (0: they are not).");
        Script.run(FAN + "helps() = 0; lead: 1; helps() = 0; lead: 7; helps() = 126; fool(6, 0) = 1; helps() = 0; home() = 1 : 2; path(0, 6, 0) = 1; helps() = 62");
        Script.run(CHAIN + "lead: 1 2; helps() = 2; lead: 3; helps() = 0; fool(1, 0) = 1; helps() = 4; take(1, 0) = 1; fool(2, 1) = 1; helps() = 2; count(5) = 1");
        Script.run("wood \"pcp-01-12k000\"; lead: 1 2; helps() = 0");
        Script.run("""
            wood "pppp-01-12-13k000"; lead: 1 2; path(0, 1, 0) = 1; helps() = 0; fool(1, 1) = 1; helps() = 0
            path(0, 3, 1) = 0; helps() = 8
            """);
        noPlaces(34, "STATE: no PLACES.", "helps()");
    }

    private static void odds() {
        Sentences.says(35, "Each PLACE's CRUMBS are eaten or not, alike likely, each by itself: chances that they FOLLOW HOME,"
            + " told by upper(), lower(): 1.");
        Script.run(CHAIN + "odds() = 1 : 1/1; lead: 1; odds() = 1 : 1/1; lead: 2 3 4 5 6 7; odds() = 1 : 0/1; " + foolAll("0") + """
            odds() = 1 : 1/64; fool(0, 0) = 1; odds() = 1 : 1/64; 19 times fool(1, 0); odds() = 1 : 1/64; count(4) = 27
            fool(1, 1) = 1; odds() = 1 : 1/32; take(2, 0) = 1; odds() = 1 : 0/1; fool(2, 2) = 1; odds() = 1 : 1/16
            """);
        Script.run(FAN + "lead: 1 7; " + foolAll("0") + "odds() = 1 : 63/64; path(0, 1, 0) = 1; odds() = 1 : 31/64; fool(6, 2) = 1; odds() = 1 : 1/1");
        // a CRUMB that leads astray has to be eaten
        Script.run("""
            wood "pppp-02-13-23k000"; lead: 2 3; fool(1, 0) = 1; odds() = 1 : 0/1; fool(2, 0) = 1; odds() = 1 : 1/4
            fool(2, 1) = 1; odds() = 1 : 1/1
            """);
        // what nobody sees, in a THICKET, a CAVE, leads nobody; a BROOK has none
        Script.run("""
            wood "ptcbp-01-02-03-14-24-34k000"; lead: 1 4; fool(1, 0) = 1; fool(2, 0) = 1; fool(3, 0) = 0; odds() = 1 : 0/1
            fool(1, 1) = 1; odds() = 1 : 1/1
            """);
        noPlaces(35, "STATE: no PLACES.", "odds()");
    }

    private static void best() {
        Sentences.says(36, "On which PLACE a STONE more makes these chances greatest (the first); the chances by upper(), lower().");
        Script.run("""
            wood "ppk000"; best() = 0 : 1/1; path(0, 1, 1) = 0; lead: 1; best() = 0 : 1/1; path(0, 1, 0) = 1; best() = 0 : 0/1
            """);
        Script.run(CHAIN + "lead: 1 2 3 4 5 6 7; best() = 0 : 0/1; " + foolAll("0") + "best() = 1 : 1/32; fool(1, 1) = 1; best() = 2 : 1/16; take(6, 0) = 1;"
            + " odds() = 1 : 0/1; best() = 6 : 1/16; count(5) = 1");
        Script.run(FAN + "lead: 1 7; best() = 1 : 1/1; path(0, 1, 0) = 1; best() = 2 : 1/1; " + foolAll("0") + "best() = 2 : 1/1; odds() = 1 : 31/64");
        Script.run("wood \"pcccp-01-02-03-14-24-34k000\"; lead: 1 4; best() = 0 : 0/1");
        noPlaces(36, "STATE: no PLACES.", "best()");
    }
}
