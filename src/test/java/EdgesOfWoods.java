/** The edges of a WOOD's small language, as "Terms" names them: how it goes on, and where a FAULT is. */
final class EdgesOfWoods {
    private static final int NONE = CrumbWood.NONE;
    private static final String LETTERS = "pgtbmc", ALL_PATHS = "-01-02-03-04-05-12-13-14-15-23-24-25-34-35";

    private EdgesOfWoods() {
    }

    static void run() {
        blanks();
        places();
        paths();
        birds();
        pockets();
        wrongSigns();
        tooMany();
        outOfTurn();
        earlyEnds();
    }

    private static void says(String sentence) {
        Sentences.says(Sentences.TERMS, sentence);
    }

    /** The FAULT of a text; a WOOD comes by it only if there is none, else all stays as it was. */
    private static void fault(String text, int want) {
        CrumbWood x = new CrumbWood();
        Due.write(x, 3, text);
        String call = "\"" + text + "\" fault(3)";
        Due.is(call, x.fault(3), want);
        long before = x.digest();
        int answer = x.wood(3);
        if (want == NONE) {
            Due.is(call + ", wood(3)", answer, text.replaceAll("[^" + LETTERS + "]", "").length());
        } else {
            Due.is(call + ", wood(3)", answer, CrumbWood.STATE);
            Due.is(call + ", digest()", x.digest(), before);
        }
    }

    private static void blanks() {
        says("A WOOD (without PLACES, BIRDS at first) is a TEXT: blanks (32) ahead, between, behind as many as wanted,");
        Script.run("count(0) = 0; count(2) = 0; place(0, 0) = BAD; bird(0) = BAD");
        fault("pp-01v1k000", NONE);
        fault(" p p -01 v1 k000 ", NONE);
        fault(" ".repeat(69) + "pp-01v1k000", NONE);
        fault("p" + " ".repeat(69) + "p-01v1k000", NONE);
        fault("pp" + " ".repeat(69) + "-01v1k000", NONE);
        fault("pp-01" + " ".repeat(69) + "v1k000", NONE);
        fault("pp-01v1" + " ".repeat(69) + "k000", NONE);
        fault("pp-01v1k000" + " ".repeat(69), NONE);
        for (int sign = 0; sign < 256; sign++) {
            // a sign that is not 32 is no blank, whatever else it is
            fault((char) sign + "ppk000", LETTERS.indexOf(sign) >= 0 || sign == 32 ? NONE : 0);
        }
        says("none within items.");
        fault("pp- 01k000", 3);
        fault("pp-0 1k000", 4);
        fault("ppv 0k000", 3);
        fault("ppk 000", 3);
        fault("ppk0 00", 4);
        fault("ppk00 0", 5);
    }

    private static void places() {
        says("First PLACES (2 to 8; 0, 1, .. as they come; PLACE 0 is HOME): a letter each.");
        fault("pk000", 1);
        fault("ppk000", NONE);
        fault("ppppppppk000", NONE);
        fault("pppppppppk000", 8);
        Script.run("""
            wood "cmbtgppp-01k000"; count(0) = 8
            place(0, 0) = 1 : 5; place(1, 0) = 1 : 4; place(2, 0) = 1 : 3; place(3, 0) = 1 : 2; place(4, 0) = 1 : 1
            place(5, 0) = 1 : 0; place(7, 0) = 1 : 0; place(8, 0) = BAD
            here() = 0 : 0; lead(1) = 1; home() = 1 : 1      # HOME is PLACE 0
            """);
        Script.run("wood \"gmk000\"; count(0) = 2; place(0, 0) = 1 : 1; place(1, 0) = 1 : 4; place(2, 0) = BAD");
    }

    private static void paths() {
        says("Then PATHS (14 at most): - (45), two PLACES (one figure each), not the same, no PATH yet between them.");
        fault("ppk000", NONE);
        fault("pppppp" + ALL_PATHS.substring(3) + "k000", NONE);
        fault("pppppp" + ALL_PATHS + "k000", NONE);
        fault("pppppp" + ALL_PATHS + "-45k000", 48);
        fault("pppppppp-70-07k000", 13);
        fault("pppppppp-77k000", 10);
        fault("pp-010k000", 5);
        fault("pp-1k000", 4);
        Script.run("""
            wood "pppppppp-07-71k000"; count(1) = 2
            place(0, 1) = 1 : 128; place(7, 1) = 1 : 3; place(1, 1) = 1 : 128; place(2, 1) = 1 : 0
            """);
        Script.run("wood \"ppk000\"; count(1) = 0; place(0, 1) = 1 : 0; place(1, 1) = 1 : 0");
    }

    private static void birds() {
        says("Then BIRDS (4 at most; 0, 1, ..): v (118), the PLACE.");
        fault("ppk000", NONE);
        fault("ppv0v0v0k000", NONE);
        fault("ppv0v0v0v0k000", NONE);
        fault("ppv0v0v0v0v0k000", 10);
        fault("pppppppp-01v7k000", NONE);
        fault("pppppppp-01v8k000", 12);
        fault("ppv01k000", 4);
        Script.run("""
            wood "pppppppp v7v0v3v3 k000"; count(2) = 4
            bird(0) = 7; bird(1) = 0; bird(2) = 3; bird(3) = 3; bird(4) = BAD
            """);
        Script.run("wood \"ppk000\"; count(2) = 0; bird(0) = BAD");
    }

    private static void pockets() {
        says("Then the POCKETS: k (107), how many CRUMBS, STONES, KNOTS (one figure each); that is the end.");
        Script.run("wood \"ppk000\"; pocket(0) = 0; pocket(1) = 0; pocket(2) = 0");
        Script.run("wood \"ppk999\"; pocket(0) = 9; pocket(1) = 9; pocket(2) = 9");
        Script.run("wood \"ppk123\"; pocket(0) = 1; pocket(1) = 2; pocket(2) = 3");
        fault("ppk00", 5);
        fault("ppk0000", 6);
        fault("ppk000k", 6);
    }

    private static void wrongSigns() {
        says("A FAULT is the first place at which it can't go on so (a letter,");
        for (int sign = 0; sign < 256; sign++) {
            boolean letter = LETTERS.indexOf(sign) >= 0;
            boolean blank = sign == ' ';
            String after = String.valueOf((char) sign);
            fault("p" + after, letter || blank ? 2 : 1);
            fault("pp" + after, letter || blank || "-vk".indexOf(sign) >= 0 ? 3 : 2);
            fault("pp-01" + after, blank || "-vk".indexOf(sign) >= 0 ? 6 : 5);
            fault("ppv0" + after, blank || "vk".indexOf(sign) >= 0 ? 5 : 4);
        }
        fault("pPpk000", 1);
        fault("xPpk000", 0);
        says("a figure that is none such, a PLACE that there is not,");
        for (int sign = 0; sign < 256; sign++) {
            boolean figure = sign >= '0' && sign <= '9';
            String after = String.valueOf((char) sign);
            fault("ppp-" + after + "1k000", "02".indexOf(sign) >= 0 ? NONE : sign == '1' ? 5 : 4);
            fault("ppp-0" + after + "k000", "12".indexOf(sign) >= 0 ? NONE : 5);
            fault("pppv" + after + "k000", "012".indexOf(sign) >= 0 ? NONE : 4);
            fault("ppk" + after + "00", figure ? NONE : 3);
            fault("ppk0" + after + "0", figure ? NONE : 4);
            fault("ppk00" + after, figure ? NONE : 5);
        }
        fault("pp-22k000", 3);
        fault("pppppppp-8", 9);
        fault("pppppppp-78k000", 10);
        says("the same one twice, a PATH told already: there;");
        fault("pp-00k000", 4);
        fault("pp-11", 4);
        fault("pp-01-01k000", 7);
        fault("pp-01-10k000", 7);
        fault("ppp-01-12 -21", 12);
        fault("ppp-01-12-2", 11);
    }

    private static void tooMany() {
        says("a ninth PLACE, a fifteenth PATH, a fifth BIRD,");
        for (char letter : LETTERS.toCharArray()) {
            fault("pppppppp" + letter + "k000", 8);
            fault("pppppppp  " + letter, 10);
        }
        fault("pppppp" + ALL_PATHS + "-45", 48);
        fault("pppppp" + ALL_PATHS + "   -", 51);
        fault("pppppp" + ALL_PATHS + "-99", 48);
        fault("pppppp" + ALL_PATHS + "-01", 48);
        fault("ppv0v1v0v1v", 10);
        fault("ppv0v1v0v1  v9", 12);
    }

    private static void outOfTurn() {
        says("a sort ahead of its turn or behind it,");
        for (String item : new String[] {"-01", "v0", "k000"}) {
            fault(item, 0);
            fault("  " + item + "pp", 2);
        }
        fault("pp-01p-02k000", 5);
        fault("pp-01  pk000", 7);
        fault("ppv0pk000", 4);
        fault("ppv0-01k000", 4);
        fault("ppv0 -99", 5);
        says("all but blanks behind the POCKETS: its place;");
        for (int sign = 0; sign < 256; sign++) {
            fault("ppk000" + (char) sign, sign == ' ' ? NONE : 6);
            fault("pp-01v0k000  " + (char) sign + " ", sign == ' ' ? NONE : 13);
        }
        says("what comes behind one PLACE alone: its place;");
        for (String item : new String[] {"-01", "v0", "k000", "-", "v", "k", "x", "-99", "0"}) {
            fault("p" + item, 1);
            fault(" g   " + item, 5);
        }
    }

    private static void earlyEnds() {
        says("the TEXT's size, if its end comes too early,");
        String right = " pgt b -01 -12v0 v2 k123";
        for (int size = 0; size < right.length(); size++) {
            fault(right.substring(0, size), size);
            fault(right.substring(0, size).replaceAll(" ", ""), size - right.substring(0, size).replaceAll("[^ ]", "").length());
        }
        fault(right, NONE);
        fault("pp" + " ".repeat(78), 80);
        fault("p" + " ".repeat(79), 80);
        fault("pp-01" + " ".repeat(75), 80);
        fault("ppv0" + " ".repeat(76), 80);
        fault(" ".repeat(78) + "pp", 80);
        fault(" ".repeat(77) + "pp-", 80);
        fault(" ".repeat(77) + "ppv", 80);
        fault(" ".repeat(75) + "ppk00", 80);
        says("or there are blanks alone).");
        for (int size = 0; size <= 80; size++) {
            fault(" ".repeat(size), size);
        }
    }
}
