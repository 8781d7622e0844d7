/** The edges that promises 1 to 11 name: a new object, ROWS, TEXTS, and a WOOD by a TEXT. */
final class EdgesOfRows {
    private static final String LEAST = "-2147483648", GREATEST = "2147483647";

    private EdgesOfRows() {
    }

    static void run() {
        newObject();
        row();
        lay();
        at();
        tear();
        copy();
        copyRefused();
        mean();
        text();
        put();
        fault();
        wood();
        woodRefused();
    }

    /** BAD for each number that is no ROW's (TEXT's, ..): one below the first, one above the last, the extremes. */
    static void bad(CrumbWood x, String call, int above) {
        for (String number : new String[] {"-1", String.valueOf(above), LEAST, GREATEST}) {
            Script.on(x, call.replace("?", number) + " = BAD");
        }
    }

    private static void newObject() {
        Sentences.says(1, "No ROWS, TEXTS, PLACES, BIRDS; empty POCKETS.");
        for (int r = 0; r < 6; r++) {
            Script.run("at(" + r + ", 0) = NOTHING; tear(" + r + ") = NOTHING; mean(" + r + ") = NOTHING");
        }
        for (int t = 0; t < 4; t++) {
            Script.run("put(" + t + ", 0, 0) = NOTHING; fault(" + t + ") = NOTHING; wood(" + t + ") = NOTHING");
        }
        for (int what = 0; what <= 10; what++) {
            Script.run("count(" + what + ") = 0");
        }
        Script.run("""
            place(0, 0) = BAD; bird(0) = BAD; pocket(0) = 0; pocket(1) = 0; pocket(2) = 0
            on(0) = NOTHING; on(1) = NOTHING; on(2) = NOTHING
            asked() = 0; upper() = 0; lower() = 1; finding() = 1
            """);
    }

    private static void row() {
        Sentences.says(2, "A ROW is there with n ints 0: n.");
        for (int n : new int[] {0, 1, 39, 40}) {
            CrumbWood x = Script.run("row(5, 3) = 3; lay(5, 0, 7) = 1; row(5, " + n + ") = " + n + "; count(7) = 1");
            Due.cells("row(5, " + n + ")", x, 5, new int[n]);
        }
        Script.run("row 0: 1 2 3; row(0, 1) = 1; row(0, 3) = 3; cells 0: 0 0 0");
        Sentences.says(2, "BAD: also n above 40;");
        CrumbWood x = Script.run("row 0: 5; row(0, 41) = BAD; row(0, 2147483647) = BAD; row(0, 40) = 40; row 0: 5");
        bad(x, "row(?, 0)", 6);
        bad(x, "row(?, 41)", 6);
        Sentences.says(2, "SIZE: below 0.");
        bad(x, "row(?, -1)", 6);
        Script.on(x, "row(0, -1) = SIZE; row(0, -2147483648) = SIZE; cells 0: 5; row(1, -1) = SIZE; at(1, 0) = NOTHING");
    }

    private static void lay() {
        Sentences.says(3, "Place i of a ROW is v: what it was, told by asked(): 1.");
        Script.run("""
            row(0, 40) = 40; lay(0, 0, 5) = 1 : 0; lay(0, 0, 6) = 1 : 5; lay(0, 39, -1) = 1 : 0; lay(0, 39, 0) = 1 : -1
            lay(0, 1, 2147483647) = 1 : 0; lay(0, 1, -2147483648) = 1 : 2147483647; lay(0, 1, 0) = 1 : -2147483648
            at(0, 0) = 1 : 6; at(0, 1) = 1 : 0; at(0, 39) = 1 : 0; at(0, 2) = 1 : 0
            row(5, 1) = 1; lay(5, 0, 8) = 1 : 0; at(0, 0) = 1 : 6
            """);
        Sentences.says(3, "BAD; NOTHING; BEYOND.");
        CrumbWood x = Script.run("""
            row 0: 1 2; row(1, 0) = 0
            lay(2, 0, 1) = NOTHING; lay(2, -1, 1) = NOTHING; lay(2, 40, 1) = NOTHING
            lay(0, -1, 9) = BEYOND; lay(0, 2, 9) = BEYOND; lay(0, 40, 9) = BEYOND; lay(1, 0, 9) = BEYOND
            lay(0, -2147483648, 9) = BEYOND; lay(0, 2147483647, 9) = BEYOND; cells 0: 1 2
            row(0, 40) = 40; lay(0, 40, 1) = BEYOND; lay(0, 39, 1) = 1 : 0
            """);
        bad(x, "lay(?, 0, 1)", 6);
        bad(x, "lay(?, -1, 1)", 6);
    }

    private static void at() {
        Sentences.says(4, "Place i of a ROW, told by asked(): 1.");
        Script.run("row 5: 7 -8 2147483647 -2147483648; at(5, 0) = 1 : 7; at(5, 1) = 1 : -8; at(5, 2) = 1 : 2147483647;"
            + " at(5, 3) = 1 : -2147483648; at(5, 0) = 1 : 7");
        Sentences.says(4, "BAD; NOTHING; BEYOND.");
        CrumbWood x = Script.run("""
            row 0: 1 2; row(1, 0) = 0; at(0, 1) = 1 : 2
            at(2, 0) = NOTHING; at(2, -1) = NOTHING; at(2, 40) = NOTHING
            at(0, -1) = BEYOND; at(0, 2) = BEYOND; at(1, 0) = BEYOND; at(1, -1) = BEYOND
            at(0, -2147483648) = BEYOND; at(0, 2147483647) = BEYOND; asked() = 2
            row(0, 1) = 1; at(0, 1) = BEYOND; row(0, 40) = 40; at(0, 39) = 1 : 0; at(0, 40) = BEYOND
            """);
        bad(x, "at(?, 0)", 6);
        bad(x, "at(?, -1)", 6);
    }

    private static void tear() {
        Sentences.says(5, "A ROW is missing: 1.");
        Script.run("""
            row(0, 0) = 0; row(5, 40) = 40; row 3: 1 2; count(7) = 3
            tear(0) = 1; count(7) = 2; at(0, 0) = NOTHING; tear(5) = 1; count(7) = 1; at(5, 39) = NOTHING; cells 3: 1 2
            tear(3) = 1; count(7) = 0; row(3, 2) = 2; cells 3: 0 0
            """);
        Sentences.says(5, "BAD; NOTHING.");
        CrumbWood x = Script.run("tear(0) = NOTHING; row(0, 1) = 1; tear(0) = 1; tear(0) = NOTHING; tear(1) = NOTHING");
        bad(x, "tear(?)", 6);
    }

    private static void copy() {
        Sentences.says(6, "n places of a ROW, from one on, come to those of another one (perhaps itself) from one on,"
            + " as if taken ahead: 1.");
        Script.run("""
            row 0: 1 2 3 4 5; row 1: 9 9 9
            copy(0, 1, 1, 0, 3) = 1; cells 1: 2 3 4; cells 0: 1 2 3 4 5
            copy(0, 4, 1, 2, 1) = 1; cells 1: 2 3 5
            copy(0, 0, 0, 1, 4) = 1; cells 0: 1 1 2 3 4
            copy(0, 2, 0, 0, 3) = 1; cells 0: 2 3 4 3 4
            copy(0, 0, 0, 0, 5) = 1; cells 0: 2 3 4 3 4
            copy(0, 0, 1, 0, 0) = 1; cells 1: 2 3 5; copy(0, 5, 1, 3, 0) = 1; cells 1: 2 3 5
            row(2, 0) = 0; copy(2, 0, 2, 0, 0) = 1; copy(0, 5, 2, 0, 0) = 1; copy(2, 0, 0, 5, 0) = 1; cells 0: 2 3 4 3 4
            """);
        Script.run("""
            row(0, 40) = 40; row(5, 40) = 40; lay(0, 0, 3) = 1; lay(0, 39, 4) = 1
            copy(0, 0, 5, 0, 40) = 1; at(5, 0) = 1 : 3; at(5, 39) = 1 : 4
            copy(5, 0, 5, 1, 39) = 1; at(5, 0) = 1 : 3; at(5, 1) = 1 : 3; at(5, 2) = 1 : 0; at(5, 39) = 1 : 0
            """);
    }

    private static void copyRefused() {
        Sentences.says(6, "BAD;");
        CrumbWood x = Script.run("row 0: 1 2 3; row 1: 7 8");
        bad(x, "copy(?, 0, 0, 0, 1)", 6);
        bad(x, "copy(0, 0, ?, 0, 1)", 6);
        bad(x, "copy(?, 0, 5, 9, -1)", 6);
        Sentences.says(6, "SIZE: n below 0;");
        Script.on(x, """
            copy(0, 0, 1, 0, -1) = SIZE; copy(0, 0, 1, 0, -2147483648) = SIZE
            copy(5, 0, 1, 0, -1) = SIZE; copy(0, 0, 5, 0, -1) = SIZE; copy(0, 9, 1, 9, -1) = SIZE; copy(0, -1, 1, 0, -1) = SIZE
            """);
        Sentences.says(6, "NOTHING: either;");
        Script.on(x, """
            copy(5, 0, 1, 0, 1) = NOTHING; copy(0, 0, 5, 0, 1) = NOTHING; copy(5, 0, 5, 0, 0) = NOTHING
            copy(5, 0, 1, 9, 1) = NOTHING; copy(0, 9, 5, 0, 1) = NOTHING; copy(0, 0, 5, 0, 0) = NOTHING
            """);
        Sentences.says(6, "BEYOND: not so many there.");
        Script.on(x, """
            copy(0, 0, 1, 0, 2) = 1; cells 1: 1 2; row 1: 7 8
            copy(0, 0, 1, 0, 3) = BEYOND; copy(0, 0, 1, 1, 2) = BEYOND; copy(0, 2, 1, 0, 2) = BEYOND; copy(1, 0, 0, 0, 3) = BEYOND
            copy(0, 3, 1, 0, 1) = BEYOND; copy(0, 0, 1, 2, 1) = BEYOND; copy(0, -1, 1, 0, 1) = BEYOND
            copy(0, 0, 1, -1, 1) = BEYOND
            copy(0, 4, 1, 0, 0) = BEYOND; copy(0, 0, 1, 3, 0) = BEYOND; copy(0, -1, 1, 0, 0) = BEYOND
            copy(0, 0, 1, -1, 0) = BEYOND
            copy(0, 1, 1, 0, 2147483647) = BEYOND; copy(0, 2147483647, 1, 0, 1) = BEYOND; copy(0, 0, 1, 2147483647, 1) = BEYOND
            copy(0, 2147483647, 1, 2147483647, 2147483647) = BEYOND; copy(0, -2147483648, 1, 0, 2147483647) = BEYOND
            copy(0, 0, 1, -2147483648, 0) = BEYOND; cells 0: 1 2 3; cells 1: 7 8
            """);
    }

    private static void mean() {
        Sentences.says(7, "The mean of a ROW's ints, cut, told by asked(): 1.");
        Script.run("""
            row 0: 5; mean(0) = 1 : 5; row 0: 0 3; mean(0) = 1 : 1; row 0: 1 2 5; mean(0) = 1 : 2; row 0: 1 1 0; mean(0) = 1 : 0
            row 0: -1 -2; mean(0) = 1 : -1; row 0: -1 0; mean(0) = 1 : 0; row 0: -5 -5 -6; mean(0) = 1 : -5
            row 5: 2147483647 2147483647; mean(5) = 1 : 2147483647
            row 5: -2147483648 -2147483648 -2147483648; mean(5) = 1 : -2147483648
            row 5: 2147483647 -2147483648; mean(5) = 1 : 0; row 5: 2147483647 1; mean(5) = 1 : 1073741824
            row(0, 40) = 40; mean(0) = 1 : 0; lay(0, 39, 80) = 1; mean(0) = 1 : 2; lay(0, 39, 79) = 1; mean(0) = 1 : 1
            """);
        Sentences.says(7, "BAD; NOTHING; NOUGHT.");
        CrumbWood x = Script.run("row 0: 4; mean(0) = 1 : 4; mean(1) = NOTHING; row(1, 0) = 0; mean(1) = NOUGHT; asked() = 4");
        bad(x, "mean(?)", 6);
    }

    private static void text() {
        Sentences.says(8, "A TEXT is there with n blanks: n.");
        Script.run("""
            text(0, 0) = 0; put(0, 0, 1) = BEYOND; fault(0) = 0; text(3, 1) = 1; put(3, 0, 7) = 1032; put(3, 1, 7) = BEYOND
            text(3, 80) = 80; put(3, 0, 7) = 1032; put(3, 79, 7) = 1032; put(3, 80, 7) = BEYOND; count(8) = 2
            text(3, 79) = 79; put(3, 0, 7) = 1032; put(3, 78, 7) = 1032; put(3, 79, 7) = BEYOND
            text(3, 80) = 80; put(3, 79, 7) = 1032; put(3, 78, 7) = 1032
            """);
        Sentences.says(8, "BAD: also n above 80;");
        CrumbWood x = Script.run("text 0 \"pp\"; text(0, 81) = BAD; text(0, 2147483647) = BAD; fault(0) = 2");
        bad(x, "text(?, 0)", 4);
        bad(x, "text(?, 81)", 4);
        Sentences.says(8, "SIZE: below 0.");
        bad(x, "text(?, -1)", 4);
        Script.on(x, "text(0, -1) = SIZE; text(0, -2147483648) = SIZE; fault(0) = 2; text(1, -1) = SIZE; fault(1) = NOTHING");
    }

    private static void put() {
        Sentences.says(9, "Byte i of a TEXT is v, cut to a byte: what it was, and 1000 more.");
        int[][] cuts = {{0, 0}, {1, 1}, {-1, -1}, {127, 127}, {128, -128}, {-128, -128}, {-129, 127}, {255, -1}, {256, 0}, {257, 1},
            {-256, 0}, {384, -128}, {Integer.MAX_VALUE, -1}, {Integer.MIN_VALUE, 0}, {1000, -24}, {-1000, 24}};
        for (int[] cut : cuts) {
            Script.run("text(3, 2) = 2; put(3, 1, " + cut[0] + ") = 1032; put(3, 1, 32) = " + (1000 + cut[1]) + "; put(3, 0, 5) = 1032");
        }
        Script.run("text(0, 80) = 80; put(0, 79, 5) = 1032; put(0, 0, 6) = 1032; put(0, 79, 0) = 1005; put(0, 0, 0) = 1006");
        Sentences.says(9, "BAD; NOTHING; BEYOND.");
        CrumbWood x = Script.run("""
            text(0, 2) = 2; text(1, 0) = 0
            put(2, 0, 1) = NOTHING; put(2, -1, 1) = NOTHING; put(2, 80, 1) = NOTHING
            put(0, -1, 1) = BEYOND; put(0, 2, 1) = BEYOND; put(1, 0, 1) = BEYOND
            put(0, -2147483648, 1) = BEYOND; put(0, 2147483647, 1) = BEYOND; fault(0) = 2
            """);
        bad(x, "put(?, 0, 1)", 4);
        bad(x, "put(?, -1, 1)", 4);
    }

    private static void fault() {
        Sentences.says(10, "A FAULT of a TEXT;");
        Script.run("""
            text 0 "ppx"; fault(0) = 2; fault(0) = 2; text 3 "x"; fault(3) = 0; fault(0) = 2; count(0) = 0
            text(1, 0) = 0; fault(1) = 0; text(1, 80) = 80; fault(1) = 80
            """);
        Sentences.says(10, "NONE: there is none.");
        Script.run("""
            text 0 "pp-01k000"; fault(0) = NONE; fault(0) = NONE; count(0) = 0; here() = STATE; wood(0) = 2; fault(0) = NONE
            """);
        Sentences.says(10, "BAD; NOTHING.");
        CrumbWood x = Script.run("fault(0) = NOTHING; fault(3) = NOTHING; text 0 \"ppk000\"; fault(0) = NONE; fault(1) = NOTHING");
        bad(x, "fault(?)", 4);
    }

    private static void wood() {
        Sentences.says(11, "A WOOD by a TEXT (anew: no MARKS, THE CHILDREN at HOME; kept WOODS go): how many PLACES.");
        Script.run("""
            text 0 "ppk000"; wood(0) = 2; text 3 "ppppppppk000"; wood(3) = 8; count(0) = 8; wood(0) = 2; count(0) = 2
            """);
        Script.run("""
            text 1 "pbt-01-12v1k321"; wood(1) = 3; lead: 1 2; drop(0) = 2; drop(1) = 1; drop(2) = 0; fool(1, 0) = 0
            fool(0, 0) = 1
            keep(0) = 2; keep(1) = 2; keep(2) = 2; path(0, 1, 0) = 1; path(0, 2, 1) = 0; hours(1) = 0; bird(0) = 2
            odds() = 1 : 1/1
            row 0: 4; at(0, 0) = 1 : 4
            wood(1) = 3; count(4) = 0; count(5) = 0; count(6) = 0; mark(1, 3) = 0; count(9) = 0
            on(0) = NOTHING; on(1) = NOTHING; on(2) = NOTHING
            asked() = 4; here() = 0 : 0; count(3) = 0; led(1) = 1; cells 1: 0
            count(1) = 2; bird(0) = 1; pocket(0) = 3; pocket(1) = 2; pocket(2) = 1; upper() = 1; cells 0: 4; count(8) = 1
            """);
        // nor does anything come into it of what was only looked at
        Script.run("""
            text 1 "pppk321"; wood "tbcm-01-12-23v1k999"; lead: 1 2 3; drop(0) = 8; drop(1) = 8; fool(1, 0) = 0
            fool(1, 2) = 1; fool(0, 0) = 1
            waits() = 0; bare() = NONE; row(0, 0) = 0; fewest(0, 3) = NONE; fault(1) = NONE; waits() = 0; wood(1) = 3
            here() = 0 : 0; led(1) = 1; cells 1: 0; count(1) = 0; count(2) = 0; count(3) = 0; count(4) = 0; count(5) = 0
            count(6) = 0; count(10) = 0
            pocket(0) = 3; pocket(1) = 2; pocket(2) = 1; mark(1, 3) = UNLIKE; mark(0, 2) = UNLIKE; place(2, 5) = 1 : 0
            place(3, 0) = BAD
            astray() = 0; helps() = 0; nearest() = 0 : 1; waits() = NONE; wood(0) = 4; mark(1, 3) = 0; mark(0, 2) = 0
            count(4) = 0; count(6) = 0; lead: 1 2 3; home() = 0 : 0
            """);
        // the TEXT is read once: what is put later changes no WOOD
        Script.run("""
            text 0 "pp-01k000"; wood(0) = 2; put(0, 0, 120) = 1112; count(0) = 2; lead(1) = 1; wood(0) = STATE; here() = 1 : 1
            """);
    }

    private static void woodRefused() {
        Sentences.says(11, "BAD; NOTHING; STATE: a FAULT. (STATE behind NOTHING.)");
        CrumbWood x = Script.run("""
            wood(0) = NOTHING; text(0, 0) = 0; wood(0) = STATE; text(0, 80) = 80; wood(0) = STATE; text 0 "ppk00"; wood(0) = STATE
            count(0) = 0; here() = STATE
            wood "pp-01v0k100"; drop(0) = 0; lead(1) = 1; keep(1) = 1
            text 1 "ppp-01v0k200x"; wood(1) = STATE; wood(2) = NOTHING; count(0) = 2; here() = 1 : 1; count(4) = 1; pocket(0) = 0
            count(2) = 1; on(1) = 1; count(9) = 1
            """);
        bad(x, "wood(?)", 4);
    }
}
