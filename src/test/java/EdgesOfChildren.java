/** The edges of KINDS, MARKS, what is SEEN, an HOUR, and how THE CHILDREN are led and follow home, as "Terms" names them. */
final class EdgesOfChildren {
    private EdgesOfChildren() {
    }

    static void run() {
        kinds();
        marks();
        seen();
        children();
        hour();
        hourWithoutPlaceBeside();
        follow();
        choose();
        lost();
    }

    private static void says(String sentence) {
        Sentences.says(Sentences.TERMS, sentence);
    }

    private static void kinds() {
        says("KINDS of PLACES and letters: 0 PLACE (p, 112), 1 GLADE (g, 103; a PLACE), 2 THICKET (t, 116; a PLACE),"
            + " 3 BROOK (b, 98; a PLACE), 4 MEADOW (m, 109; a GLADE), 5 CAVE (c, 99; a THICKET).");
        char[] letters = {112, 103, 116, 98, 109, 99};
        // for each KIND asked for, the KINDS that are of it
        String[] are = {"", "14", "25", "3", "4", "5"};
        for (int own = 0; own < 6; own++) {
            CrumbWood x = Due.wood("p" + letters[own] + "k000");
            Due.told("letter " + letters[own], x, x.place(1, 0), own);
            for (int kind = 1; kind < 6; kind++) {
                boolean is = are[kind].indexOf('0' + own) >= 0;
                Script.on(x, "mark(1, " + kind + ") = " + (is ? "0" : "UNLIKE"));
            }
            Due.is("THICKETS", x.count(10), own == 2 || own == 5 ? 1 : 0);
        }
    }

    private static void marks() {
        says("MARKS are 0 CRUMBS, 1 STONES, 2 KNOTS; of each as many as are dropped lie on a PLACE.");
        Script.run("""
            wood "pp-01k999"; 9 times drop(0); 4 times drop(1); drop(2) = 8
            place(0, 2) = 1 : 9; place(0, 3) = 1 : 4; place(0, 4) = 1 : 1
            place(1, 2) = 1 : 0; place(1, 3) = 1 : 0; place(1, 4) = 1 : 0
            count(4) = 9; count(5) = 4; count(6) = 1
            drop(-1) = BAD; drop(3) = BAD
            """);
        says("CRUMBS that are dropped in a BROOK are gone at once.");
        Script.run("""
            wood "bp-01k222"; drop(0) = 1; place(0, 2) = 1 : 0; place(0, 5) = 1 : 0; count(4) = 0; bare() = 0
            mark(0, 3) = 1; hours(1) = 0; mark(0, 3) = 1
            drop(1) = 1; place(0, 3) = 1 : 1; drop(2) = 1; place(0, 4) = 1 : 1; place(0, 5) = 1 : 6
            """);
    }

    /** What is SEEN on a PLACE of a KIND with some MARKS: bits of both. */
    private static void seenOn(char letter, int marks, int want) {
        CrumbWood x = Due.wood("p" + letter + "k000");
        for (int m = 0; m < 3; m++) {
            if ((marks >> m & 1) == 1) {
                x.fool(1, m);
            }
        }
        Due.told(letter + " with MARKS " + marks, x, x.place(1, 5), want);
    }

    private static void seen() {
        says("SEEN on a PLACE from one beside it (with a PATH between) are:");
        // 1 is marked, but not beside them; no PATH, nothing SEEN from there
        Script.run("""
            wood "pppp-01-12-23k000"; lead: 1 2 3; fool(1, 1) = 1; home() = 0 : 0
            path(1, 3, 1) = 0; home() = 1 : 2; path(1, 3, 0) = 1; home() = 0 : 0
            """);
        says("STONES;");
        for (char letter : "pgtbm".toCharArray()) {
            seenOn(letter, 2, letter == 'm' ? 6 : 2);
        }
        says("KNOTS, not in a THICKET;");
        for (char letter : "pgtbm".toCharArray()) {
            seenOn(letter, 4, letter == 't' ? 0 : 4);
        }
        says("CRUMBS, not in a THICKET;");
        for (char letter : "pgtm".toCharArray()) {
            seenOn(letter, 1, letter == 't' ? 0 : letter == 'm' ? 5 : 1);
        }
        for (int marks = 0; marks < 8; marks++) {
            seenOn('p', marks, marks);
            seenOn('g', marks, marks);
            seenOn('t', marks, marks & 2);
            seenOn('b', marks, marks & 6);
        }
        says("in a CAVE none of these;");
        for (int marks = 0; marks < 8; marks++) {
            seenOn('c', marks, 0);
        }
        says("in a MEADOW always a KNOT (others tie them, too).");
        for (int marks = 0; marks < 8; marks++) {
            seenOn('m', marks, marks | 4);
        }
        Script.run("wood \"pmk000\"; place(1, 4) = 1 : 0; count(6) = 0; take(1, 2) = 0; place(1, 5) = 1 : 4");
    }

    private static void children() {
        says("======== 2 THE CHILDREN are at HOME at first, are LED by PATHS, from PLACE to PLACE (30 STEPS at most),");
        Script.run("""
            wood "ppp-01k000"; here() = 0 : 0; count(3) = 0
            lead(2) = STATE; lead(0) = STATE
            14 times lots(2, 1); lead(1) = 29; here() = 1 : 29
            lead(0) = 30; here() = 0 : 30; lead(1) = FULL; here() = 0 : 30; count(3) = 30
            """);
        says("DROP what is in their POCKETS where they are.");
        Script.run("""
            wood "pp-01k111"; lead(1) = 1; drop(1) = 0; place(1, 3) = 1 : 1; place(0, 3) = 1 : 0; pocket(1) = 0
            drop(1) = STATE; lead(0) = 2; drop(0) = 0; place(0, 2) = 1 : 1; place(1, 2) = 1 : 0; drop(0) = STATE
            """);
    }

    private static void hour() {
        says("AN HOUR: by numbers, each BIRD eats all CRUMBS on its PLACE");
        Script.run("""
            wood "ppp-01-12v1v2k000"; 20 times fool(1, 0); fool(0, 0) = 1; fool(2, 0) = 1; fool(1, 1) = 1; fool(1, 2) = 1
            hours(1) = 21; place(0, 2) = 1 : 1; place(1, 2) = 1 : 0; place(1, 3) = 1 : 1; place(1, 4) = 1 : 1
            """);
        Script.run("wood \"pp-01v0v0v0v0k000\"; 5 times fool(0, 0); hours(1) = 5; fool(0, 0) = 1; hours(1) = 0; hours(1) = 1");
        // it eats where it is, also in a THICKET, a CAVE
        Script.run("wood \"tc-01v0v1k000\"; fool(0, 0) = 1; fool(1, 0) = 1; hours(1) = 2; count(4) = 0");
        says("(in a GLADE, a MEADOW, too, also those of all PLACES beside it that are no THICKET, no CAVE),");
        for (char letter : "gm".toCharArray()) {
            Script.run("wood \"" + letter + "pgtbmcp-01-02-03-04-05-06v0k000\"" + """
                ; fool(0, 0) = 1; fool(1, 0) = 1; fool(2, 0) = 1; fool(3, 0) = 1; fool(4, 0) = 0; fool(5, 0) = 1; fool(6, 0) = 1
                fool(7, 0) = 1; mark(0, 1) = 4; hours(1) = 4
                place(0, 2) = 1 : 0; place(1, 2) = 1 : 0; place(2, 2) = 1 : 0; place(5, 2) = 1 : 0
                place(3, 2) = 1 : 1; place(6, 2) = 1 : 1; place(7, 2) = 1 : 1
                """);
        }
        for (char letter : "ptbc".toCharArray()) {
            Script.run("wood \"" + letter + "ppv0k000\"; path(0, 1, 1) = 0; fool(1, 0) = 1; hours(1) = 0; place(1, 2) = 1 : 1");
        }
        says("then flies to the next PLACE beside its own by number (the least one above its own, else the least one;");
        // beside 3 are 1, 5, 6, beside 6 are 2, 3: the least above, not the least; the least, not the first below
        Script.run("""
            wood "pppppppp-13-35-36-26-07v3v6v0v7k000"
            bird(0) = 3 : 5; bird(1) = 6 : 2; bird(2) = 0 : 7; bird(3) = 7 : 0
            hours(1) = 0; bird(0) = 5 : 3; bird(1) = 2 : 6; bird(2) = 7 : 0; bird(3) = 0 : 7
            hours(1) = 0; bird(0) = 3; bird(1) = 6; bird(2) = 0; bird(3) = 7
            """);
    }

    private static void hourWithoutPlaceBeside() {
        says("without any it stays).");
        for (char letter : "pgtmc".toCharArray()) {
            Script.run("wood \"p" + letter + "p-02v1k000\"" + """
                ; fool(1, 0) = 1; fool(2, 0) = 1; fool(0, 0) = 1
                bird(0) = 1 : 1; bare() = NONE; hours(1) = 1; bird(0) = 1 : 1; place(1, 2) = 1 : 0
                fool(1, 0) = 1; hours(40) = 1; bird(0) = 1 : 1; count(4) = 2
                was(0, 0) = 2; was(0, 1) = 2; was(0, 40) = 2
                """);
        }
        Script.run("wood \"pbv1k000\"; fool(1, 0) = 0; hours(1) = 0; bird(0) = 1 : 1; mark(1, 3) = 1");
        // it flies on when a PATH comes, and stays again when it goes
        Script.run("""
            wood "ppv1k000"; hours(2) = 0; path(0, 1, 1) = 0; bird(0) = 1 : 0; hours(1) = 0; bird(0) = 0 : 1
            path(0, 1, 0) = 1; bird(0) = 0 : 0; hours(3) = 0; bird(0) = 0 : 0
            """);
    }

    private static void follow() {
        says("TO FOLLOW HOME, from where they are (that PLACE is TRODDEN, no other one):");
        // they go back by PLACES on which they have been, but never to where they began
        Script.run("wood \"ppp-01-12k000\"; lead: 1 2 1 2; fool(1, 0) = 1; home() = 1 : 2");
        Script.run("""
            wood "pppp-01-12k000"; lead: 1; path(0, 1, 0) = 1; fool(1, 1) = 1; fool(2, 1) = 1
            home() = 0 : 1; back(0) = 2; cells 0: 1 2
            """);
        says("if HOME is beside, they go there.");
        Script.run("""
            wood "cppp-01-12-13k000"; lead: 1; fool(2, 1) = 1; fool(3, 2) = 1; home() = 1 : 1; back(0) = 2; cells 0: 1 0
            lead: 2; fool(1, 0) = 1; home() = 1 : 2
            """);
    }

    /** Which of two PLACES, 1 and 2, is gone to from 3; HOME is behind both. */
    private static void chosen(String marks1, String marks2, int want) {
        CrumbWood x = Due.wood("pppp-01-02-13-23k000");
        Due.lead(x, 1, 3);
        for (int i = 0; i < marks1.length(); i++) {
            x.fool(1, marks1.charAt(i) - '0');
        }
        for (int i = 0; i < marks2.length(); i++) {
            x.fool(2, marks2.charAt(i) - '0');
        }
        x.back(0);
        Due.cells("MARKS " + marks1 + " and " + marks2, x, 0, want == 0 ? new int[] {3} : new int[] {3, want, 0});
    }

    private static void choose() {
        says("Else, of PLACES beside, not TRODDEN, on which a MARK is SEEN, to one where STONES are SEEN, else KNOTS,"
            + " else CRUMBS;");
        chosen("", "", 0);
        chosen("0", "", 1);
        chosen("", "0", 2);
        chosen("", "1", 2);
        chosen("", "2", 2);
        chosen("2", "1", 2);
        chosen("0", "1", 2);
        chosen("0", "2", 2);
        chosen("02", "1", 2);
        chosen("00000", "2", 2);
        chosen("222", "01", 2);
        chosen("1", "02", 1);
        says("of alike ones the least number;");
        chosen("0", "0", 1);
        chosen("2", "2", 1);
        chosen("1", "1", 1);
        chosen("1", "11", 1);
        chosen("1", "012", 1);
        chosen("02", "2", 1);
        Script.run("wood \"pppppppp-17-67-16-06k000\"; lead: 6 7; fool(6, 1) = 1; fool(1, 1) = 1; back(0) = 4; cells 0: 7 1 6 0");
        says("it is TRODDEN then.");
        Script.run("""
            wood "ppppp-01-12-23-31-14k000"; lead: 1; path(0, 1, 0) = 1; 3 times fool(2, 1); fool(3, 2) = 1; fool(1, 1) = 1
            fool(4, 0) = 1; back(0) = 3; cells 0: 1 2 3; home() = 0 : 2
            """);
    }

    private static void lost() {
        says("Where none is, they are LOST.");
        Script.run("""
            wood "ppp-01-12k000"; lead: 1 2; home() = 0 : 0; fool(0, 1) = 1; fool(2, 1) = 1; home() = 0 : 0
            path(1, 2, 0) = 1; home() = 0 : 0; back(0) = 1; cells 0: 2
            """);
        Script.run("""
            wood "pctp-01-12-23k000"; lead: 1 2 3; fool(2, 0) = 1; home() = 0 : 0; fool(2, 1) = 1; fool(1, 1) = 1
            home() = 0 : 1
            """);
        says("(Marks stay.");
        Script.run("""
            wood "ppp-01-12k000"; lead: 1 2; fool(1, 0) = 1; home() = 1 : 2; home() = 1 : 2; place(1, 2) = 1 : 1
            here() = 2 : 2
            """);
        says("At HOME they are HOME at once.)");
        Script.run("""
            wood "ppp-01-12v1k000"; home() = 1 : 0; back(0) = 1; cells 0: 0
            lead: 1 0; fool(1, 1) = 1; home() = 1 : 0; back(0) = 1; cells 0: 0
            wrong() = NONE; waits() = NONE; nearest() = 0 : 1; astray() = 0; helps() = 0; odds() = 1 : 1/1; best() = 0 : 1/1
            row(1, 0) = 0; fewest(1, 0) = 0 : 0; surest(1, 40) = 0 : 0
            path(0, 1, 0) = 1; home() = 1 : 0; nearest() = 0 : 1; waits() = NONE; odds() = 1 : 1/1
            """);
    }
}
