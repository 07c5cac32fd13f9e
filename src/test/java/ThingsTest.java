/** Promises 6 to 12, 27 to 30, 35 to 37: what stands, what is done, undone and held, what minutes bring. */
public final class ThingsTest {
    private static final String A = "crate a 0 0 1 2 3 4 5 6;";
    private static final int LEAST = Integer.MIN_VALUE;
    private static final int MOST = Integer.MAX_VALUE;

    private ThingsTest() {
    }

    public static void main(String[] args) {
        flag();
        crate();
        tellsVariables();
        tellsBeyond();
        tellsSums();
        tellsOthers();
        tip();
        tipPrintsAndTakes();
        paint();
        minutes();
        minutesSlip();
        minutesByTurns();
        undo();
        undoForty();
        inMinutes();
        year();
        holdAndRestore();
        count();
        Check.end("ThingsTest");
    }

    private static void crateIs(String what, TippedCrates x, int crate, int... due) {
        for (int i = 0; i < due.length; i++) {
            Check.due(what + ": crate(" + crate + ", " + i + ")", x.crate(crate, i), due[i]);
        }
    }

    private static void flag() {
        TippedCrates x = Check.of("yard 3 2;shut 2 0;paint 1 1 7;paint 2 0 3;" + A);
        Check.due("flag(4, 0)", x.flag(4, 0), 7);
        Check.due("flag(2, 0) shut", x.flag(2, 0), 3);
        Check.due("flag(3, 0)", x.flag(3, 0), 0);
        Check.due("flag(2, 1)", x.flag(2, 1), 1);
        Check.due("flag(3, 1)", x.flag(3, 1), 0);
        Check.due("flag(0, 2)", x.flag(0, 2), 0);
        Check.due("flag(1, 2)", x.flag(1, 2), -2);
        for (int what = 0; what < 3; what++) {
            Check.due("flag(6, ..)", x.flag(6, what), -1);
            Check.due("flag(-1, ..)", x.flag(-1, what), -1);
            Check.due("flag(most, ..)", x.flag(MOST, what), -1);
            Check.due("flag(least, ..)", x.flag(LEAST, what), -1);
        }
        Check.due("flag(0, 3)", x.flag(0, 3), -1);
        Check.due("flag(0, -1)", x.flag(0, -1), -1);
        x = Check.of("yard 5 5;crate a 1 2 0 0 0 0 0 0;crate b 4 4 0 0 0 0 0 0;");
        Check.due("second crate", x.flag(24, 2), 1);
        Check.due("first crate", x.flag(11, 2), 0);
        Check.due("flag(25, 0)", x.flag(25, 0), -1);
    }

    private static void crate() {
        TippedCrates x = Check.of("yard 5 3;crate a 3 2 9 8 7 6 5 4;crate b 0 1 0 1 2 3 4 5;");
        crateIs("as told", x, 0, 9, 8, 7, 6, 5, 4, 13, 0, -1);
        crateIs("as told", x, 1, 0, 1, 2, 3, 4, 5, 5, 0, -1);
        crateIs("none", x, 2, -1, -1, -1, -1, -1, -1, -1, -1);
        crateIs("none", x, -1, -1, -1, -1, -1, -1, -1, -1, -1);
        crateIs("none", x, LEAST, -1, -1);
        crateIs("none", x, MOST, -1, -1);
        Check.due("crate(0, -1)", x.crate(0, -1), -1);
        Check.due("crate(0, least)", x.crate(0, LEAST), -1);
        x.tip(1, 3);
        Check.due("tipped once", x.crate(1, 7), 1);
        Check.due("its flag", x.crate(1, 6), 0);
        Check.due("other one", x.crate(0, 7), 0);
    }

    private static int costs(String law, int way) {
        return Check.of("yard 3 3;paint 2 1 8;crate z 0 2 0 0 0 0 0 0;crate a 1 1 1 2 3 4 5 6;costs=" + law + ";")
                .tells(1, way, 1);
    }

    private static void tellsVariables() {
        String[] names = {"left", "top", "flag", "over", "beneath", "tips", "minute", "which", "way"};
        int[][] due = {{2, 1, 8, 5, 6, 0, 0, 1, 0}, {1, 2, 0, 3, 4, 0, 0, 1, 1}, {0, 1, 0, 6, 5, 0, 0, 1, 2},
            {1, 0, 0, 4, 3, 0, 0, 1, 3}};
        for (int name = 0; name < names.length; name++) {
            for (int way = 0; way < 4; way++) {
                Check.due(names[name] + " by " + way, costs(names[name], way), due[way][name]);
            }
        }
        TippedCrates x = Check.of("crate z 3 3 0 0 0 0 0 0;crate a 1 1 1 2 3 4 5 6;prints=0;costs=tips*10+minute;");
        x.tip(1, 0);
        x.tip(1, 2);
        Check.due("tips of a", x.tells(1, 0, 1), 20);
        Check.due("tips of z", x.tells(0, 2, 1), 0);
        x = Check.of("shut 1 0;shut 0 1;" + A + "costs=minute;");
        x.minutes(7);
        Check.due("minute", x.tells(0, 0, 1), 7);
    }

    private static void tellsBeyond() {
        TippedCrates x = Check.of("yard 2 2;paint 1 0 7;shut 0 1;paint 0 1 6;crate b 1 0 0 0 0 0 0 0;" + A
                + "costs=left*10+top+20;slips=flag;");
        Check.due("beyond by 2", x.tells(1, 2, 1), 10);
        Check.due("beyond by 3", x.tells(1, 3, 1), 19);
        Check.due("its mark by 2", x.tells(1, 2, 4), 0);
        Check.due("its mark by 3", x.tells(1, 3, 4), 0);
        Check.due("beneath another crate", x.tells(1, 0, 4), 7);
        Check.due("shut", x.tells(1, 1, 4), 6);
        for (int way = 0; way < 4; way++) {
            Check.due("it can not be", x.tells(1, way, 0), 0);
        }
        Check.due("b beyond by 0", x.tells(0, 0, 1), 40);
        Check.due("b can by 1", x.tells(0, 1, 0), 1);
        Check.due("b by 1", x.tells(0, 1, 1), 31);
    }

    private static void tellsSums() {
        String[] laws = {"10-3-2", "100/10/5", "2+3*4", "(2+3)*4", "10+(0-7)/2", "0-9999*9999*9999/(9000*9000)",
            "8192*8192*32/(0-1)/(0-8192*8192)", "100", "98", "0-5", "5+1/0", "if 1/0<1 then 5 else 6",
            "if 1<1/0 then 5 else 6", "if 1<2 then 5 else 1/0", "if 2<1 then 1/0 else 6", "0*(1/0)+3",
            "if 2<2 then 1 else 9", "if 2<1 then 1 else if 1<2 then 2 else if 1<2 then 3 else 4",
            "if 1<2 then 3 else if 1/0<1 then 4 else 5", "if 1<2 then 1/(1-1) else 4",
            "if 0-1<0 then 7 else 8", "2*(3+(4*(5-(6/(1+(2-0))))))", "7/2*2", "1+2*3-8/4+5",
            "8192*8192*32-1+1-1-8192*8192*31/1", "if 1<0 then 1 else if 1<0 then 2 else if 1<0 then 3 else "
            + "if 1<0 then 4 else 5"};
        int[] due = {5, 2, 14, 20, 7, 12, 32, 99, 98, 0, 0, 0, 0, 5, 6, 0, 9, 2, 3, 0, 7, 30, 6, 10, 99, 5};
        for (int i = 0; i < laws.length; i++) {
            Check.due("costs=" + laws[i], costs(laws[i], 0), due[i]);
        }
    }

    private static void tellsOthers() {
        TippedCrates x = Check.of(A);
        int[] untold = {1, 1, 1, 0, 0};
        for (int what = 0; what < 5; what++) {
            Check.due("not told: " + what, x.tells(0, 0, what), untold[what]);
        }
        x = Check.of(A + "prints=0-1;takes=3;slips=101;");
        Check.due("prints below 0", x.tells(0, 0, 2), 0);
        Check.due("takes above 0", x.tells(0, 0, 3), 1);
        Check.due("slips held", x.tells(0, 0, 4), 100);
        x = Check.of(A + "prints=9;takes=9999*9999*9999;slips=0-1;");
        Check.due("prints above 0", x.tells(0, 0, 2), 1);
        Check.due("takes wraps below 0", x.tells(0, 0, 3), 0);
        Check.due("slips held", x.tells(0, 0, 4), 0);
        x = Check.of(A + "prints=1;takes=1;slips=100;");
        Check.due("takes, whatever prints", x.tells(0, 0, 3), 1);
        Check.due("slips", x.tells(0, 0, 4), 100);
        for (int what = -1; what < 6; what++) {
            Check.due("no crate", x.tells(1, 0, what), -1);
            Check.due("no crate", x.tells(-1, 0, what), -1);
            Check.due("no way", x.tells(0, 4, what), -1);
            Check.due("no way", x.tells(0, -1, what), -1);
        }
        Check.due("no what", x.tells(0, 0, 5), -1);
        Check.due("no what", x.tells(0, 0, -1), -1);
    }

    private static void tip() {
        int[][] behind = {{5, 6, 3, 4, 2, 1, 6, 1}, {3, 4, 2, 1, 5, 6, 9, 1}, {6, 5, 3, 4, 1, 2, 4, 1},
            {4, 3, 1, 2, 5, 6, 1, 1}};
        for (int way = 0; way < 4; way++) {
            TippedCrates x = Check.of("crate a 1 1 1 2 3 4 5 6;costs=11;");
            Check.due("tip", x.tip(0, way), behind[way][6]);
            crateIs("tipped " + way, x, 0, behind[way]);
            Check.due("paid", x.count(4), 11);
            Check.due("print", x.flag(behind[way][6], 0), behind[way][1]);
            Check.due("one to undo", x.count(9), 1);
            Check.due("minute", x.count(3), 0);
        }
        TippedCrates x = Check.of("yard 3 3;shut 1 0;crate a 0 0 1 2 3 4 5 6;crate b 0 1 6 5 4 3 2 1;");
        int[][] none = {{0, 0}, {0, 1}, {0, 2}, {0, 3}, {1, 2}, {1, 3}, {2, 0}, {-1, 0}, {1, 4}, {1, -1},
            {MOST, 0}, {0, LEAST}};
        for (int[] one : none) {
            Check.due("tip(" + one[0] + ", " + one[1] + ")", x.tip(one[0], one[1]), -1);
        }
        Check.due("nothing happened", x.count(9), 0);
        Check.due("nothing tipped", x.count(12), 0);
        Check.due("nothing paid", x.count(4), 0);
        Check.due("b right", x.tip(1, 0), 4);
        Check.due("now a near", x.tip(0, 1), 3);
        Check.due("b by b's own", x.tip(1, 2), -1);
        crateIs("a tipped twice", x, 0, 3, 4, 2, 1, 5, 6, 3, 1);
    }

    private static void tipPrintsAndTakes() {
        TippedCrates x = Check.of("yard 3 2;paint 1 0 8;paint 0 1 9;" + A + "prints=0;takes=1;costs=flag;");
        Check.due("tip", x.tip(0, 0), 1);
        crateIs("took up 8", x, 0, 5, 8, 3, 4, 2, 1, 1, 1);
        Check.due("the flag keeps it", x.flag(1, 0), 8);
        Check.due("paid", x.count(4), 8);
        Check.due("tip", x.tip(0, 2), 0);
        crateIs("took up 0", x, 0, 1, 0, 3, 4, 5, 8, 0, 2);
        x = Check.of("yard 3 2;paint 1 0 8;" + A + "prints=1;takes=1;");
        x.tip(0, 0);
        Check.due("prints goes ahead of takes", x.flag(1, 0), 6);
        Check.due("prints goes ahead of takes", x.crate(0, 1), 6);
        x = Check.of("yard 3 2;paint 1 0 8;" + A + "prints=0;takes=0;");
        x.tip(0, 0);
        Check.due("neither: flag", x.flag(1, 0), 8);
        Check.due("neither: beneath", x.crate(0, 1), 6);
        x = Check.of("yard 3 2;" + A + "prints=tips;takes=0;costs=if left<1 then 50 else 1+tips;");
        x.tip(0, 0);
        Check.due("asked ahead of the tipping: print", x.flag(1, 0), 0);
        Check.due("asked ahead of the tipping: paid", x.count(4), 1);
        x.tip(0, 0);
        Check.due("asked ahead of the tipping: print", x.flag(2, 0), 1);
        Check.due("asked ahead of the tipping: paid", x.count(4), 3);
        x = Check.of("yard 3 2;paint 1 0 5;" + A + "prints=flag;");
        x.tip(0, 0);
        Check.due("by the mark ahead", x.flag(1, 0), 6);
        x.tip(0, 0);
        Check.due("by the mark ahead", x.flag(2, 0), 0);
    }

    private static void paint() {
        TippedCrates x = Check.of("yard 3 2;shut 2 0;paint 1 1 7;" + A);
        Check.due("another mark", x.paint(4, 9), true);
        Check.due("is there", x.flag(4, 0), 9);
        Check.due("washed", x.paint(4, 0), true);
        Check.due("is gone", x.flag(4, 0), 0);
        Check.due("washed again", x.paint(4, 0), false);
        Check.due("of a crate", x.paint(0, 3), false);
        Check.due("shut", x.paint(2, 3), false);
        Check.due("mark 10", x.paint(5, 10), false);
        Check.due("mark -1", x.paint(5, -1), false);
        Check.due("flag 6", x.paint(6, 1), false);
        Check.due("flag -1", x.paint(-1, 1), false);
        Check.due("flag most", x.paint(MOST, 1), false);
        Check.due("flag least", x.paint(LEAST, 1), false);
        Check.due("two things done", x.count(9), 2);
        Check.due("none of them", x.count(6), 0);
        x.tip(0, 0);
        Check.due("where the crate was", x.paint(0, 3), true);
        Check.due("where it is", x.paint(1, 3), false);
    }

    private static void minutes() {
        // By the lots of seed 1 the first crate goes 0, 1, 3, 0, 2, 3, 1, 2 in the first eight minutes.
        TippedCrates x = Check.of(A + "seed 1;");
        Check.due("minutes(0)", x.minutes(0), 0);
        Check.due("no thing done", x.count(9), 0);
        Check.due("minutes(-1)", x.minutes(-1), -1);
        Check.due("minutes(61)", x.minutes(61), -1);
        Check.due("minutes(least)", x.minutes(LEAST), -1);
        int[] flags = {1, 5, 1, 2, 1, 1, 5, 4};
        int[] tops = {5, 3, 5, 2, 5, 5, 3, 1};
        int[] sums = {6, 10, 10, 11, 11, 11, 11, 13};
        int[] paid = {1, 2, 3, 4, 5, 5, 6, 7};
        for (int i = 0; i < 8; i++) {
            Check.due("minute", x.minutes(1), i + 1);
            Check.due("flag in minute " + i, x.crate(0, 6), flags[i]);
            Check.due("top in minute " + i, x.crate(0, 0), tops[i]);
            Check.due("marks in minute " + i, x.count(7), sums[i]);
            Check.due("paid in minute " + i, x.count(4), paid[i]);
        }
        crateIs("behind eight", x, 0, 1, 2, 6, 5, 3, 4, 4, 7);
        x = Check.of(A + "seed 1;");
        Check.due("eight at once", x.minutes(8), 8);
        crateIs("eight at once", x, 0, 1, 2, 6, 5, 3, 4, 4, 7);
        Check.due("one thing done", x.count(9), 1);
        Check.due("sixty more", x.minutes(60), 68);
        x = new TippedCrates();
        Check.due("without crates", x.minutes(60), 60);
    }

    private static void minutesSlip() {
        // By seed 1 the lot of slipping is 12 in the first minute, 78 in the second.
        Check.due("slips 12", slipped("12"), 1);
        Check.due("slips 13", slipped("13"), 2);
        Check.due("asked behind: where", slipped("left*10"), 2);
        Check.due("asked behind: tips", slipped("tips*50"), 2);
        Check.due("asked behind: over", slipped("if over<3 then 100 else 0"), 2);
        Check.due("that way", slipped("if way<1 then 100 else 0"), 2);
        Check.due("in that minute", slipped("if minute<1 then 100 else 0"), 2);
        TippedCrates x = Check.of(A + "seed 1;slips=78;costs=2;");
        x.minutes(2);
        Check.due("right twice, near", x.crate(0, 6), 6);
        Check.due("three tippings", x.count(12), 3);
        Check.due("paid", x.count(4), 6);
        Check.due("print of the first", x.flag(1, 0), 6);
        Check.due("print of the slip", x.flag(2, 0), 1);
        x = Check.of(A + "seed 1;slips=79;");
        x.minutes(2);
        Check.due("right twice, near twice", x.crate(0, 6), 10);
        x = Check.of("shut 2 0;" + A + "seed 1;slips=100;");
        x.minutes(1);
        Check.due("no slipping onto a shut flag", x.crate(0, 6), 1);
        x = Check.of("shut 1 0;" + A + "seed 1;slips=100;");
        x.minutes(1);
        Check.due("none at all", x.count(12), 0);
    }

    private static int slipped(String law) {
        TippedCrates x = Check.of(A + "seed 1;slips=" + law + ";");
        x.minutes(1);
        return x.crate(0, 7);
    }

    private static void minutesByTurns() {
        // By seed 1 the first crate goes 0 in the first minute, the second 1, then 1 and 3.
        TippedCrates x = Check.of(A + "crate b 1 0 1 2 3 4 5 6;seed 1;");
        x.minutes(1);
        Check.due("a could not yet", x.crate(0, 6), 0);
        Check.due("b", x.crate(1, 6), 5);
        x.minutes(1);
        Check.due("a", x.crate(0, 6), 4);
        Check.due("b", x.crate(1, 6), 1);
        x = Check.of("crate a 0 1 1 2 3 4 5 6;crate b 1 0 1 2 3 4 5 6;seed 1;");
        x.minutes(1);
        Check.due("a goes first", x.crate(0, 6), 5);
        Check.due("b could not any more", x.crate(1, 6), 1);
        x = Check.of("crate a 0 1 1 2 3 4 5 6;crate b 1 0 1 2 3 4 5 6;seed 7;");
        x.minutes(1);
        Check.due("seed 7: a near", x.crate(0, 6), 8);
        Check.due("seed 7: b far", x.crate(1, 6), 1);
    }

    private static void undo() {
        TippedCrates x = Check.of("yard 3 2;paint 2 1 4;" + A + "seed 1;costs=3;");
        Check.due("none", x.undo(), false);
        x.tip(0, 0);
        x.paint(5, 9);
        x.minutes(2);
        x.minutes(0);
        x.tip(0, 7);
        x.paint(5, 9);
        x.minutes(61);
        Check.due("three", x.count(9), 3);
        Check.due("minutes undone", x.undo(), true);
        Check.due("minute", x.count(3), 0);
        crateIs("as ahead of them", x, 0, 5, 6, 3, 4, 2, 1, 1, 1);
        Check.due("paint undone", x.undo(), true);
        Check.due("mark", x.flag(5, 0), 4);
        Check.due("tip undone", x.undo(), true);
        crateIs("as at first", x, 0, 1, 2, 3, 4, 5, 6, 0, 0);
        Check.due("paid", x.count(4), 0);
        Check.due("print", x.flag(1, 0), 0);
        Check.due("no more", x.undo(), false);
        Check.due("no more", x.count(9), 0);
        x.tell(1, 1, true);
        x.tip(0, 1);
        x.undo();
        Check.due("told stays", x.count(10), 1);
    }

    private static void undoForty() {
        TippedCrates x = new TippedCrates();
        for (int i = 1; i <= 45; i++) {
            Check.due("minutes", x.minutes(1), i);
            Check.due("to undo", x.count(9), Math.min(i, 40));
        }
        for (int i = 44; i >= 5; i--) {
            Check.due("undo", x.undo(), true);
            Check.due("the minute ahead", x.count(3), i);
            Check.due("to undo", x.count(9), i - 5);
        }
        Check.due("undo 41", x.undo(), false);
        Check.due("nothing happened", x.count(3), 5);
        for (int i = 1; i <= 90; i++) {
            x.minutes(1);
        }
        x.minutes(1);
        x.undo();
        Check.due("the one that went too far back stays lost", x.count(9), 39);
        x.minutes(1);
        Check.due("forty again", x.count(9), 40);
    }

    private static void inMinutes() {
        Check.due("flagIn at once", Check.of(A + "seed 1;").flagIn(1, 1), 6);
        Check.due("then at once", Check.of(A + "seed 1;").then(0, 1, 0), 1);
        Check.due("paidIn at once", Check.of(A + "seed 1;").paidIn(1), 1);
        TippedCrates x = Check.of(A + "seed 1;costs=3;");
        int[] flags = {0, 1, 5, 1, 2, 1, 1, 5, 4};
        int[] tops = {1, 5, 3, 5, 2, 5, 5, 3, 1};
        int[] paid = {0, 3, 6, 9, 12, 15, 15, 18, 21};
        for (int n = 0; n < 9; n++) {
            Check.due("then(0, " + n + ", 0)", x.then(0, n, 0), flags[n]);
            Check.due("then(0, " + n + ", 1)", x.then(0, n, 1), tops[n]);
            Check.due("paidIn(" + n + ")", x.paidIn(n), paid[n]);
            Check.due("flagIn(1, " + n + ")", x.flagIn(1, n), n > 0 ? 6 : 0);
            Check.due("flagIn(5, " + n + ")", x.flagIn(5, n), n > 1 ? 4 : 0);
            Check.due("flagIn(4, " + n + ")", x.flagIn(4, n), n > 7 ? 2 : 0);
        }
        Check.due("nothing happened", x.count(3) + x.count(4) + x.count(7) + x.count(9) + x.count(12), 0);
        x.minutes(2);
        Check.due("from now on", x.then(0, 6, 0), 4);
        Check.due("so far and by then", x.paidIn(6), 21);
        Check.due("so far", x.paidIn(0), 6);
        int due = x.then(0, 60, 0);
        int top = x.then(0, 60, 1);
        int sum = x.paidIn(60);
        int mark = x.flagIn(10, 60);
        x.minutes(60);
        Check.due("sixty: flag", x.crate(0, 6), due);
        Check.due("sixty: top", x.crate(0, 0), top);
        Check.due("sixty: paid", x.count(4), sum);
        Check.due("sixty: mark", x.flag(10, 0), mark);
        for (int n : new int[] {-1, 61, LEAST, MOST}) {
            Check.due("then(0, " + n + ", 0)", x.then(0, n, 0), -1);
            Check.due("flagIn(0, " + n + ")", x.flagIn(0, n), -1);
            Check.due("paidIn(" + n + ")", x.paidIn(n), -1);
        }
        Check.due("then(1, 1, 0)", x.then(1, 1, 0), -1);
        Check.due("then(-1, 1, 0)", x.then(-1, 1, 0), -1);
        Check.due("then(0, 1, 2)", x.then(0, 1, 2), -1);
        Check.due("then(0, 1, -1)", x.then(0, 1, -1), -1);
        Check.due("flagIn(16, 1)", x.flagIn(16, 1), -1);
        Check.due("flagIn(-1, 1)", x.flagIn(-1, 1), -1);
    }

    private static void year() {
        // The first ways of the first crate: 0 by seed 1, 1 by seed 2, 3 by seed 3.
        TippedCrates x = Check.of("crate a 1 1 1 2 3 4 5 6;seed 1;");
        int[] tops = {0, 0, 0, 1, 1, 1, 0};
        for (int mark = 0; mark < 7; mark++) {
            Check.due("year(0, " + mark + ", 1, 3)", x.year(0, mark, 1, 3), tops[mark]);
            Check.due("year(0, " + mark + ", 1, 1)", x.year(0, mark, 1, 1), mark == 5 ? 1 : 0);
        }
        Check.due("in no minutes", x.year(0, 1, 0, 20), 20);
        Check.due("in no minutes", x.year(0, 2, 0, 20), 0);
        Check.due("nothing happened", x.count(3) + x.count(9) + x.count(12), 0);
        x = Check.of("crate a 1 1 1 2 3 4 5 6;seed 9999;");
        Check.due("on from 9999: 5", x.year(0, 5, 3, 2), 1);
        Check.due("on from 9999: 6", x.year(0, 6, 3, 2), 1);
        int[][] none = {{1, 1, 1, 1}, {-1, 1, 1, 1}, {0, 10, 1, 1}, {0, -1, 1, 1}, {0, 1, -1, 1}, {0, 1, 61, 1},
            {0, 1, 1, 0}, {0, 1, 1, 21}, {0, 1, 1, -1}};
        for (int[] one : none) {
            Check.due("year of no such", x.year(one[0], one[1], one[2], one[3]), -1);
        }
        int all = 0;
        for (int mark = 0; mark < 10; mark++) {
            all += x.year(0, mark, 60, 20);
        }
        Check.due("all seeds", all, 20);
    }

    private static void holdAndRestore() {
        TippedCrates x = Check.of("yard 3 2;" + A + "costs=5;");
        Check.due("hold(3)", x.hold(3), false);
        Check.due("hold(-1)", x.hold(-1), false);
        Check.due("restore(0)", x.restore(0), false);
        Check.due("restore(3)", x.restore(3), false);
        Check.due("restore(-1)", x.restore(-1), false);
        x.tip(0, 0);
        Check.due("hold(2)", x.hold(2), true);
        Check.due("one held", x.count(11), 1);
        Check.due("hold undoes nothing", x.count(9), 1);
        x.tip(0, 0);
        x.minutes(3);
        x.tell(2, 2, false);
        Check.put(x, "yard");
        Check.due("restore of none", x.restore(1), false);
        Check.due("nothing happened", x.count(9), 3);
        Check.due("restore(2)", x.restore(2), true);
        crateIs("restored", x, 0, 5, 6, 3, 4, 2, 1, 1, 1);
        Check.due("marks", x.count(7), 6);
        Check.due("minute", x.count(3), 0);
        Check.due("paid", x.count(4), 5);
        Check.due("nothing to undo", x.undo(), false);
        Check.due("told stays", x.count(10), 1);
        Check.due("the tape stays", x.count(8), 4);
        x.tip(0, 2);
        Check.due("stays there", x.restore(2), true);
        Check.due("restored again", x.crate(0, 6), 1);
        x.tip(0, 2);
        Check.due("held anew", x.hold(2), true);
        x.tip(0, 1);
        x.restore(2);
        Check.due("the later one", x.crate(0, 6), 0);
        Check.due("still one", x.count(11), 1);
        x.hold(0);
        x.hold(1);
        Check.due("all three", x.count(11), 3);
        x.tip(0, 0);
        Check.due("restore(0)", x.restore(0), true);
        Check.due("from slot 0", x.crate(0, 6), 0);
    }

    private static void count() {
        TippedCrates x = Check.of("yard 4 3;shut 3 2;shut 0 2;paint 3 2 7;paint 1 1 9;paint 2 2 0;"
                + "crate a 0 1 1 2 3 4 5 6;crate b 0 0 9 8 7 6 5 4;crate c 1 0 3 3 3 3 3 3;prints=0;costs=4;");
        int[] due = {4, 3, 3, 0, 0, 1 << 11 | 1 << 8, 1 << 11 | 1 << 5, 16, 0, 0, 0, 0, 0, 0b10011, 9, 0b010, 13};
        for (int what = 0; what < due.length; what++) {
            Check.due("count(" + what + ")", x.count(what), due[what]);
        }
        x.tip(0, 0);
        x.tip(2, 0);
        x.tip(0, 0);
        x.minutes(0);
        x.tell(1, 1, true);
        x.tell(1, 2, true);
        x.hold(0);
        Check.put(x, "abc");
        int[] behind = {4, 3, 3, 0, 12, 1 << 11 | 1 << 8, 1 << 11 | 1 << 5, 16, 3, 3, 2, 1, 3, 0b1000101, 9, 0, 14};
        for (int what = 0; what < behind.length; what++) {
            Check.due("behind: count(" + what + ")", x.count(what), behind[what]);
        }
        for (int what : new int[] {-1, 17, LEAST, MOST}) {
            Check.due("count(" + what + ")", x.count(what), -1);
        }
        x = Check.of("yard 5 5;shut 4 4;paint 4 4 1;crate a 4 3 0 0 0 0 0 0;");
        Check.due("flag 24 shut", x.count(5), 1 << 24);
        Check.due("flag 24 marked", x.count(6), 1 << 24);
        Check.due("flag 19 taken", x.count(13), 1 << 19);
        x = Check.of("yard 2 2;paint 0 0 9;shut 1 1;crate a 1 0 0 0 0 0 0 0;crate b 0 0 1 1 1 1 1 1;"
                + "crate c 0 1 2 2 2 2 2 2;");
        Check.due("all stuck", x.count(15), 0b111);
        Check.due("flag 0 marked", x.count(6), 1);
        Check.due("flags taken", x.count(13), 0b111);
    }
}
