/**
 * Each sentence of Terms II and of promises 6 to 12, 27 to 30 and 35 to 37 that names a boundary, with a test of its
 * own. That refused calls change nothing is held to by RefusedTest.
 */
public final class ThingEdgesTest {
    private static final int LEAST = Integer.MIN_VALUE;
    private static final int MOST = Integer.MAX_VALUE;
    private static final int[] STEP_X = {1, 0, -1, 0};
    private static final int[] STEP_Y = {0, 1, 0, -1};
    private static final String A = "crate a 0 0 1 2 3 4 5 6;";
    private static final String MIDDLE = "yard 5 5;crate a 2 2 1 2 3 4 5 6;";
    /** 2 to the 31st, which wraps to the least int. */
    private static final String TOO_MANY = "8192*8192*32";

    private ThingEdgesTest() {
    }

    public static void main(String[] args) {
        flagNumbers();
        whereItCanTip();
        fourTimesTheSameWay();
        firstIfThatHolds();
        sumsThatWrap();
        towardsNought();
        dividedByNought();
        beyondTheYard();
        behindTheTipping();
        costsHeld();
        slipsHeld();
        lots();
        moreThanNought();
        askedAhead();
        waysOfMinutes();
        slipsOfMinutes();
        byHand();
        flag();
        crate();
        tells();
        tip();
        paint();
        minutes();
        undo();
        then();
        flagIn();
        paidIn();
        year();
        hold();
        restore();
        count();
        Check.end("ThingEdgesTest");
    }

    private static String yard(int wide, int high) {
        return "yard " + wide + " " + high + ";";
    }

    private static String crate(String name, int x, int y) {
        return "crate " + name + " " + x + " " + y + " 1 2 3 4 5 6;";
    }

    private static int costs(String law) {
        return Check.of(MIDDLE + "costs=" + law + ";").tells(0, 0, 1);
    }

    private static void costsAre(String law, int due) {
        Check.due("costs=" + law, costs(law), due);
    }

    private static void flagNumbers() {
        Check.says("A flag's number: WIDE * Y + X.");
        for (int wide = 2; wide <= 5; wide++) {
            for (int high = 2; high <= 5; high++) {
                TippedCrates x = Check.of(yard(wide, high) + crate("a", wide - 1, 0) + crate("b", 0, high - 1)
                        + crate("c", wide - 1, high - 1));
                Check.due("right corner", x.crate(0, 6), wide - 1);
                Check.due("near corner", x.crate(1, 6), wide * (high - 1));
                Check.due("last flag", x.crate(2, 6), wide * high - 1);
                Check.due("flag 0", x.flag(0, 2), -2);
                Check.due("the last flag", x.flag(wide * high - 1, 2), 2);
                Check.due("no more flags", x.flag(wide * high, 2), -1);
            }
        }
    }

    private static void whereItCanTip() {
        Check.says("To TIP a CRATE a WAY (0 right, 1 near: Y one more, 2 left, 3 far: Y one less): it comes to the "
                + "next flag that way, if that is in the YARD, not SHUT, no other CRATE is there:");
        for (int size = 0; size < 16; size++) {
            int wide = 2 + size % 4;
            int high = 2 + size / 4;
            for (int flag = 0; flag < wide * high; flag++) {
                for (int way = 0; way < 4; way++) {
                    int x = flag % wide + STEP_X[way];
                    int y = flag / wide + STEP_Y[way];
                    boolean inside = x >= 0 && x < wide && y >= 0 && y < high;
                    String text = yard(wide, high) + crate("a", flag % wide, flag / wide);
                    canTip(text, way, inside ? wide * y + x : -1);
                    if (inside) {
                        canTip(text + "shut " + x + " " + y + ";", way, -1);
                        canTip(text + crate("b", x, y), way, -1);
                        canTip(text + "paint " + x + " " + y + " 9;", way, wide * y + x);
                    }
                }
            }
        }
    }

    private static void canTip(String text, int way, int due) {
        TippedCrates x = Check.of(text);
        int from = x.crate(0, 6);
        Check.due("tells(0, " + way + ", 0) of " + text, x.tells(0, way, 0), due == -1 ? 0 : 1);
        Check.due("tip(0, " + way + ") of " + text, x.tip(0, way), due);
        Check.due("its flag then", x.crate(0, 6), due == -1 ? from : due);
        Check.due("tipped so often", x.crate(0, 7), due == -1 ? 0 : 1);
    }

    private static void fourTimesTheSameWay() {
        Check.says("by 0 its right side comes beneath, what was beneath to the left, what was left on top, what was on "
                + "top to the right (far and near stay);");
        int[][] starts = {{0, 2}, {2, 0}, {4, 2}, {2, 4}};
        int[][] behindOne = {{5, 6, 3, 4, 2, 1}, {3, 4, 2, 1, 5, 6}, {6, 5, 3, 4, 1, 2}, {4, 3, 1, 2, 5, 6}};
        int[][] behindTwo = {{2, 1, 3, 4, 6, 5}, {2, 1, 4, 3, 5, 6}, {2, 1, 3, 4, 6, 5}, {2, 1, 4, 3, 5, 6}};
        for (int way = 0; way < 4; way++) {
            TippedCrates x = Check.of("yard 5 5;prints=0;" + crate("a", starts[way][0], starts[way][1]));
            for (int often = 1; often <= 4; often++) {
                Check.due("it can be", x.tip(0, way) >= 0, true);
                for (int face = 0; face < 6; face++) {
                    int due = often == 1 ? behindOne[way][face] : often == 2 ? behindTwo[way][face]
                            : often == 3 ? behindOne[(way + 2) % 4][face] : face + 1;
                    Check.due("face " + face + " behind " + often + " by " + way, x.crate(0, face), due);
                }
            }
            Check.due("a fifth one leads out of the yard", x.tip(0, way), -1);
        }
    }

    private static void firstIfThatHolds() {
        Check.says("LAWS: the E of the first if that holds (one less than the other), else the last one;");
        costsAre("if 1<2 then 3 else 4", 3);
        costsAre("if 2<2 then 3 else 4", 4);
        costsAre("if 3<2 then 3 else 4", 4);
        costsAre("if 0-3<0-2 then 3 else 4", 3);
        costsAre("if 0-2<0-3 then 3 else 4", 4);
        costsAre("if 0<0 then 1 else if 0<1 then 2 else if 0<1 then 3 else 4", 2);
        String no = "if 1<1 then 1 else ";
        for (int ahead = 0; ahead < 4; ahead++) {
            costsAre(no.repeat(ahead) + "if 0<1 then 7 else " + no.repeat(3 - ahead) + "8", 7);
            costsAre(no.repeat(ahead) + "9", 9);
        }
        costsAre(no.repeat(4) + "9", 9);
        costsAre("if " + TOO_MANY + "<" + TOO_MANY + "-1 then 3 else 4", 3);
        costsAre("if " + TOO_MANY + "-1<" + TOO_MANY + " then 3 else 4", 4);
    }

    private static void sumsThatWrap() {
        Check.says("ints of 32 bits that wrap,");
        costsAre("if " + TOO_MANY + "<0 then 1 else 2", 1);
        costsAre("if " + TOO_MANY + "-1<0 then 1 else 2", 2);
        costsAre("if " + TOO_MANY + "-1+1<0 then 1 else 2", 1);
        costsAre("if 0-" + TOO_MANY + "<0 then 1 else 2", 1);
        costsAre(TOO_MANY + "*2+5", 5);
        costsAre("(" + TOO_MANY + "-1)*2+9", 7);
        costsAre("(" + TOO_MANY + "+1)*(" + TOO_MANY + "+1)", 1);
        costsAre(TOO_MANY + "+" + TOO_MANY + "+3", 3);
        costsAre("0-" + TOO_MANY + "-" + TOO_MANY + "+4", 4);
        // 9999 to the fourth is 9996000599960001, which is 1089432001 and a multiple of 2 to the 32nd.
        costsAre("9999*9999*9999*9999/9999/9999", 10);
        costsAre("9999*9999*9999*9999-9999*9999*10-9999*8964-950", 1089432001 - 999800010 - 89631036 - 950);
    }

    private static void towardsNought() {
        Check.says("/ rounded towards 0;");
        costsAre("10+7/2", 13);
        costsAre("10+(0-7)/2", 7);
        costsAre("10+7/(0-2)", 7);
        costsAre("10+(0-7)/(0-2)", 13);
        costsAre("10+1/2", 10);
        costsAre("10+(0-1)/2", 10);
        costsAre("10+0/5", 10);
        costsAre("10+6/(0-2)", 7);
        costsAre("if " + TOO_MANY + "/(0-1)<0 then 1 else 2", 1);
        costsAre(TOO_MANY + "/(0-1)-" + TOO_MANY + "+6", 6);
        costsAre("7/2*2", 6);
        costsAre("100/7/3", 4);
    }

    private static void dividedByNought() {
        Check.says("a LAW in which something that is looked at is divided by 0 is 0.");
        String[] noughts = {"1/0", "0/0", "1/(1-1)", "5+1/0", "1/0+5", "0*(1/0)+3", "(1/0)*0+3", "7/(1/2)", "3/which",
            "1/tips+9", "if 1/0<1 then 5 else 6", "if 1<1/0 then 5 else 6", "if 1<2 then 1/0 else 6",
            "if 2<1 then 5 else 1/0", "if 2<1 then 5 else if 1/0<1 then 6 else 7",
            "if 2<1 then 5 else if 1<2 then 6/0 else 7", "if 0/0<0/0 then 5 else 6",
            TOO_MANY + "/(" + TOO_MANY + "*2)"};
        for (String law : noughts) {
            costsAre(law, 0);
        }
        costsAre("if 1<2 then 5 else 1/0", 5);
        costsAre("if 2<1 then 1/0 else 6", 6);
        costsAre("if 1<2 then 5 else if 1/0<1 then 6 else 7", 5);
        costsAre("if 1<2 then 5 else if 1<2 then 1/0 else 7/0", 5);
        costsAre("0/1+5", 5);
        TippedCrates x = Check.of(MIDDLE + "prints=1+1/0;takes=1+1/0;costs=50+1/0;slips=50+1/0;paint 3 2 9;");
        for (int what = 1; what < 5; what++) {
            Check.due("each law: what " + what, x.tells(0, 0, what), 0);
        }
        x.tip(0, 0);
        Check.due("nothing printed", x.flag(13, 0), 9);
        Check.due("nothing taken up", x.crate(0, 1), 6);
        Check.due("nothing paid", x.count(4), 0);
        x = Check.of(MIDDLE + "prints=1/flag;takes=1/(1-flag);paint 3 2 1;");
        Check.due("prints by the paint", x.tells(0, 0, 2), 1);
        Check.due("takes by the paint", x.tells(0, 0, 3), 0);
        Check.due("prints without", x.tells(0, 1, 2), 0);
        Check.due("takes without", x.tells(0, 1, 3), 1);
    }

    private static void beyondTheYard() {
        Check.says("Of a CRATE and a WAY: left, top: X, Y of the flag to which it comes (beyond the YARD: what they "
                + "would be); flag: the mark there (beyond: 0);");
        for (int wide = 2; wide <= 5; wide++) {
            for (int high = 2; high <= 5; high++) {
                String all = "";
                for (int i = 0; i < 10; i++) {
                    all += "paint " + i % wide + " " + i / wide % high + " 9;";
                }
                String laws = "costs=(left+1)*10+top+1;slips=flag;";
                TippedCrates x = Check.of(yard(wide, high) + all + laws + crate("a", 0, 0)
                        + crate("b", wide - 1, high - 1));
                Check.due("left out", x.tells(0, 2, 1), 1);
                Check.due("far out", x.tells(0, 3, 1), 10);
                Check.due("right out", x.tells(1, 0, 1), (wide + 1) * 10 + high);
                Check.due("near out", x.tells(1, 1, 1), wide * 10 + high + 1);
                Check.due("right", x.tells(0, 0, 1), 21);
                Check.due("near", x.tells(0, 1, 1), 12);
                Check.due("no mark left out", x.tells(0, 2, 4), 0);
                Check.due("no mark far out", x.tells(0, 3, 4), 0);
                Check.due("no mark right out", x.tells(1, 0, 4), 0);
                Check.due("no mark near out", x.tells(1, 1, 4), 0);
                Check.due("a mark right", x.tells(0, 0, 4), 9);
            }
        }
        TippedCrates x = Check.of("yard 2 2;shut 1 0;paint 1 0 8;paint 0 1 7;" + A + crate("b", 0, 1)
                + "slips=flag+5;");
        Check.due("of a shut flag", x.tells(0, 0, 4), 13);
        Check.due("of another crate's flag", x.tells(0, 1, 4), 12);
        Check.due("beyond: 0", x.tells(0, 2, 4), 5);
        Check.due("beyond: 0", x.tells(0, 3, 4), 5);
    }

    private static void behindTheTipping() {
        Check.says("over, beneath: the marks that are on top, beneath behind it; tips: how often the CRATE was tipped "
                + "so far; minute; which: the CRATE's number; way.");
        TippedCrates x = Check.of(MIDDLE + "shut 3 2;prints=0;costs=over*10+beneath;slips=tips*10+minute;");
        int[] due = {56, 34, 65, 43};
        for (int way = 0; way < 4; way++) {
            Check.due("by " + way + ", whether it can or not", x.tells(0, way, 1), due[way]);
        }
        Check.due("not tipped, minute 0", x.tells(0, 1, 4), 0);
        x.tip(0, 0);
        Check.due("a refused tipping is none", x.tells(0, 1, 4), 0);
        x.tip(0, 1);
        Check.due("tipped once", x.tells(0, 1, 4), 10);
        x.undo();
        Check.due("undone", x.tells(0, 1, 4), 0);
        x = Check.of("yard 2 2;shut 1 0;shut 0 1;" + A + "slips=tips*10+minute;costs=way*10+which;");
        x.minutes(60);
        Check.due("stuck for sixty minutes", x.tells(0, 1, 4), 60);
        Check.due("way 0 of crate 0", x.tells(0, 0, 1), 0);
        Check.due("way 3 of crate 0", x.tells(0, 3, 1), 30);
        x = Check.of(crate("a", 0, 0) + crate("b", 1, 0) + crate("c", 2, 0) + "costs=way*10+which;");
        Check.due("way 3 of crate 2", x.tells(2, 3, 1), 32);
    }

    private static void costsHeld() {
        Check.says("COSTS held to 0 .. 99,");
        String[] laws = {"0-9999", "0-1", "0", "1", "98", "99", "100", "9999", TOO_MANY, TOO_MANY + "-1"};
        int[] due = {0, 0, 0, 1, 98, 99, 99, 99, 0, 99};
        for (int i = 0; i < laws.length; i++) {
            TippedCrates x = Check.of(MIDDLE + "costs=" + laws[i] + ";seed 1;");
            Check.due("costs=" + laws[i], x.tells(0, 0, 1), due[i]);
            Check.due("cheapest by it", x.cheapest(0, 13), due[i]);
            Check.due("paid in a minute", x.paidIn(1), due[i]);
            x.tip(0, 0);
            Check.due("paid by it", x.count(4), due[i]);
            x.tip(0, 0);
            Check.due("paid by it twice", x.count(4), 2 * due[i]);
        }
    }

    private static void slipsHeld() {
        Check.says("SLIPS to 0 .. 100.");
        String[] laws = {"0-9999", "0-1", "0", "1", "99", "100", "101", "9999", TOO_MANY, TOO_MANY + "-1"};
        int[] due = {0, 0, 0, 1, 99, 100, 100, 100, 0, 100};
        for (int i = 0; i < laws.length; i++) {
            TippedCrates x = Check.of(MIDDLE + "slips=" + laws[i] + ";");
            Check.due("slips=" + laws[i], x.tells(0, 0, 4), due[i]);
        }
        for (int seed = 0; seed < 60; seed++) {
            Check.due("0 never slips", Check.of(MIDDLE + "slips=0;costs=1;seed " + seed + ";").paidIn(1), 1);
            Check.due("100 always does", Check.of(MIDDLE + "slips=100;costs=1;seed " + seed + ";").paidIn(1), 2);
        }
    }

    private static void lots() {
        Check.says("the rest of h, moved 1 bit down likewise, by n (32 bits that wrap).");
        int[] seeds = {0, 1, 2, 215, 216, 4711, 9998, 9999};
        for (int seed : seeds) {
            TippedCrates x = Check.of(MIDDLE + "seed " + seed + ";");
            int flag = 12;
            for (int minute = 0; minute < 60; minute++) {
                flag = stepped(flag, Lots.way(seed, minute, 0));
                Check.due("seed " + seed + ", minute " + minute, x.then(0, minute + 1, 0), flag);
            }
        }
    }

    /** In a yard of 5 by 5 with nothing in its way. */
    private static int stepped(int flag, int way) {
        int x = flag % 5 + STEP_X[way];
        int y = flag / 5 + STEP_Y[way];
        return x < 0 || x > 4 || y < 0 || y > 4 ? flag : 5 * y + x;
    }

    private static void moreThanNought() {
        Check.says("then, if PRINTS tells more than 0, the flag has the mark that is beneath; else, if TAKES tells more "
                + "than 0, the face that is beneath has the flag's mark");
        String[] laws = {"0-1", "0", "1", "9999", TOO_MANY, TOO_MANY + "-1"};
        boolean[] more = {false, false, true, true, false, true};
        for (int p = 0; p < laws.length; p++) {
            for (int t = 0; t < laws.length; t++) {
                TippedCrates x = Check.of(MIDDLE + "paint 3 2 9;prints=" + laws[p] + ";takes=" + laws[t] + ";");
                Check.due("prints=" + laws[p], x.tells(0, 0, 2), more[p] ? 1 : 0);
                Check.due("takes=" + laws[t], x.tells(0, 0, 3), more[t] ? 1 : 0);
                x.tip(0, 0);
                Check.due("flag", x.flag(13, 0), more[p] ? 6 : 9);
                Check.due("beneath", x.crate(0, 1), !more[p] && more[t] ? 9 : 6);
            }
        }
        TippedCrates x = Check.of("yard 2 2;crate a 0 0 0 0 0 0 0 0;paint 1 0 9;");
        x.tip(0, 0);
        Check.due("a mark of 0 is printed too", x.flag(1, 0), 0);
        x = Check.of("yard 2 2;crate a 0 0 9 9 9 9 9 9;prints=0;takes=1;");
        x.tip(0, 0);
        Check.due("a mark of 0 is taken up too", x.crate(0, 1), 0);
    }

    private static void askedAhead() {
        Check.says("(both asked ahead of the tipping, as COSTS).");
        TippedCrates x = Check.of("yard 5 2;paint 1 0 3;" + A + "prints=flag-2;takes=2-tips;costs=flag*10+tips;");
        x.tip(0, 0);
        Check.due("by the mark 3 that was there", x.flag(1, 0), 6);
        Check.due("costs by it", x.count(4), 30);
        x.tip(0, 0);
        Check.due("tipped once so far: takes", x.crate(0, 1), 0);
        Check.due("costs by one", x.count(4), 31);
        x.tip(0, 0);
        Check.due("tipped twice so far: neither", x.crate(0, 1), 5);
        Check.due("costs by two", x.count(4), 33);
    }

    private static void waysOfMinutes() {
        Check.says("WAY is LOT 4 of the SEED and 8 * the minute and its number; if it can be TIPPED so, it is;");
        for (int seed = 0; seed < 30; seed++) {
            TippedCrates x = Check.of("yard 5 5;" + crate("a", 0, 0) + crate("b", 2, 2) + crate("c", 4, 4)
                    + "seed " + seed + ";");
            int[] flags = {0, 12, 24};
            int often = 0;
            for (int minute = 0; minute < 40; minute++) {
                for (int each = 0; each < 3; each++) {
                    int next = stepped(flags[each], Lots.way(seed, minute, each));
                    boolean free = next != flags[0] && next != flags[1] && next != flags[2];
                    often += free ? 1 : 0;
                    flags[each] = free ? next : flags[each];
                }
                Check.due("minute", x.minutes(1), minute + 1);
                Check.due("crates", x.count(13), 1 << flags[0] | 1 << flags[1] | 1 << flags[2]);
                Check.due("tipped", x.count(12), often);
                Check.due("crate 2", x.crate(2, 6), flags[2]);
            }
        }
        TippedCrates x = Check.of("yard 2 2;shut 1 0;shut 0 1;" + A + "costs=9;slips=100;");
        Check.due("it can not be: the minute goes by", x.minutes(60), 60);
        Check.due("not tipped", x.count(12), 0);
        Check.due("nothing paid", x.count(4), 0);
        Check.due("nothing printed", x.count(7), 0);
    }

    private static void slipsOfMinutes() {
        Check.says("then, if LOT 100 of the SEED and 100,000 and 8 * the minute and its number is less than SLIPS of "
                + "it that WAY (asked behind the first tipping), and if it can, it is TIPPED so once more.");
        boolean least = false;
        boolean most = false;
        for (int seed = 0; seed < 400; seed++) {
            int lot = Lots.slip(seed, 0, 0);
            least |= lot == 0;
            most |= lot == 99;
            String text = MIDDLE + "seed " + seed + ";slips=";
            Check.due("slips " + lot + " by lot " + lot, tipsInMinute(text + lot + ";"), 1);
            Check.due("slips " + (lot + 1) + " by lot " + lot, tipsInMinute(text + (lot + 1) + ";"), 2);
            Check.due("asked behind", tipsInMinute(text + "if tips<1 then 0 else 100;"), 2);
            Check.due("asked behind", tipsInMinute(text + "if tips<1 then 100 else 0;"), 1);
            int way = Lots.way(seed, 0, 0);
            Check.due("that way", tipsInMinute(text + "if way<" + way + " then 0 else if way<" + (way + 1)
                    + " then 100 else 0;"), 2);
            int shut = stepped(stepped(12, way), way);
            Check.due("if it can", tipsInMinute("shut " + shut % 5 + " " + shut / 5 + ";" + text + "100;"), 1);
            Check.due("once more, not twice", tipsInMinute(text + "100;"), 2);
        }
        Check.due("lots of 0 and of 99 were among them", least && most, true);
        slipsOfLaterMinutes();
    }

    /** Of the third crate alone, as the other two are shut in, and in one minute alone. */
    private static void slipsOfLaterMinutes() {
        String yard = "yard 5 5;shut 1 0;shut 0 1;shut 3 0;shut 4 1;" + crate("a", 0, 0) + crate("b", 4, 0)
                + crate("c", 2, 3);
        int shut = 1 << 1 | 1 << 5 | 1 << 3 | 1 << 9 | 1 | 1 << 4;
        int cases = 0;
        for (int seed = 0; seed < 40; seed++) {
            for (int minute : new int[] {1, 2, 7, 60}) {
                int lot = Lots.slip(seed, minute, 2);
                for (int slips = lot; slips <= lot + 1; slips++) {
                    TippedCrates x = Check.of(yard + "seed " + seed + ";slips=if minute<" + minute + " then 0 else "
                            + slips + ";");
                    x.minutes(minute);
                    int flag = x.crate(2, 6);
                    int way = Lots.way(seed, minute, 2);
                    int first = stepped(flag, way);
                    int second = stepped(first, way);
                    if (first == flag || second == first || ((shut >> first | shut >> second) & 1) == 1) {
                        continue;
                    }
                    cases++;
                    x.minutes(1);
                    Check.due("slips " + slips + " by lot " + lot, x.crate(2, 6), slips > lot ? second : first);
                }
            }
        }
        Check.due("cases looked at: " + cases, cases > 40, true);
    }

    private static int tipsInMinute(String text) {
        TippedCrates x = Check.of(text);
        x.minutes(1);
        return x.count(12);
    }

    private static void byHand() {
        Check.says("a flag without a CRATE, not SHUT, is painted another mark (0: washed);");
        TippedCrates x = Check.of("yard 5 5;");
        for (int flag = 0; flag < 25; flag++) {
            Check.due("painted", x.paint(flag, 1 + flag % 9), true);
            Check.due("its mark", x.flag(flag, 0), 1 + flag % 9);
        }
        for (int flag = 0; flag < 25; flag++) {
            Check.due("washed", x.paint(flag, 0), true);
            Check.due("its mark", x.flag(flag, 0), 0);
            Check.due("washed already", x.paint(flag, 0), false);
        }
        Check.due("all washed", x.count(6), 0);
    }

    private static void flag() {
        Check.says("Of a flag: what 0 its mark, 1: 1 SHUT, else 0, 2 which CRATE is there (-2: none). NONE for "
                + "others.");
        TippedCrates x = Check.of("yard 2 3;shut 0 0;paint 1 2 9;" + crate("a", 1, 2) + crate("b", 1, 0));
        int[][] due = {{0, 1, -2}, {0, 0, 1}, {0, 0, -2}, {0, 0, -2}, {0, 0, -2}, {9, 0, 0}};
        for (int flag = 0; flag < 6; flag++) {
            for (int what = 0; what < 3; what++) {
                Check.due("flag(" + flag + ", " + what + ")", x.flag(flag, what), due[flag][what]);
            }
            for (int what : new int[] {-1, 3, 4, LEAST, MOST}) {
                Check.due("flag(" + flag + ", " + what + ")", x.flag(flag, what), -1);
            }
        }
        for (int flag : new int[] {-1, 6, 7, 24, 25, LEAST, MOST}) {
            for (int what = -1; what < 4; what++) {
                Check.due("flag(" + flag + ", " + what + ")", x.flag(flag, what), -1);
            }
        }
        x.tip(0, 2);
        Check.due("it has gone", x.flag(5, 2), -2);
        Check.due("it is there", x.flag(4, 2), 0);
    }

    private static void crate() {
        Check.says("Of a CRATE: what 0 .. 5 the mark on top, beneath, on the far, the near, the left, the right side, "
                + "6 its flag, 7 how often tipped. NONE for others.");
        for (int crates = 0; crates <= 3; crates++) {
            String text = "";
            for (int i = 0; i < crates; i++) {
                text += crate("abc".substring(i, i + 1), i, i);
            }
            TippedCrates x = Check.of(text);
            for (int each : new int[] {LEAST, -1, 0, 1, 2, 3, MOST}) {
                for (int what : new int[] {LEAST, -1, 0, 1, 2, 3, 4, 5, 6, 7, 8, MOST}) {
                    boolean is = each >= 0 && each < crates && what >= 0 && what < 8;
                    int due = what < 6 ? what + 1 : what == 6 ? 5 * each : 0;
                    Check.due("crate(" + each + ", " + what + ")", x.crate(each, what), is ? due : -1);
                }
            }
        }
    }

    private static void tells() {
        Check.says("Of a CRATE and a WAY now: what 0: 1 it can be TIPPED so, else 0, 1 COSTS, 2: 1 PRINTS tells more "
                + "than 0, else 0, 3: 1 TAKES does, else 0, 4 SLIPS. NONE for others.");
        TippedCrates x = Check.of(crate("a", 0, 0) + crate("b", 3, 3) + "costs=50;prints=7;takes=8;slips=60;");
        int[] due = {1, 50, 1, 1, 60};
        for (int crate : new int[] {LEAST, -1, 0, 1, 2, MOST}) {
            for (int way : new int[] {LEAST, -1, 0, 1, 2, 3, 4, MOST}) {
                for (int what : new int[] {LEAST, -1, 0, 1, 2, 3, 4, 5, MOST}) {
                    boolean is = crate >= 0 && crate < 2 && way >= 0 && way < 4 && what >= 0 && what < 5;
                    int one = !is ? -1 : what == 0 ? (way < 2) == (crate == 0) ? 1 : 0 : due[what];
                    Check.due("tells(" + crate + ", " + way + ", " + what + ")", x.tells(crate, way, what), one);
                }
            }
        }
    }

    private static void tip() {
        Check.says("TIPPED: on which flag it is then; NONE, and nothing happens: it can not be, no such ones.");
        TippedCrates x = Check.of("yard 2 2;" + crate("a", 0, 0) + crate("b", 1, 1));
        for (int crate : new int[] {LEAST, -1, 2, 3, MOST}) {
            for (int way = 0; way < 4; way++) {
                Check.due("tip(" + crate + ", " + way + ")", x.tip(crate, way), -1);
            }
        }
        for (int way : new int[] {LEAST, -1, 4, 5, MOST}) {
            Check.due("tip(0, " + way + ")", x.tip(0, way), -1);
        }
        Check.due("flag 0 is an answer too", x.tip(0, 0) * 10 + x.tip(0, 2), 10);
        Check.due("the last flag", x.tip(1, 2) * 10 + x.tip(1, 0), 23);
    }

    private static void paint() {
        Check.says("A flag is painted: true; false, and nothing happens: it has that mark, a CRATE is there, SHUT, no "
                + "such ones.");
        TippedCrates x = Check.of("yard 2 3;shut 0 0;paint 1 1 5;" + crate("a", 1, 0));
        for (int mark : new int[] {LEAST, -1, 0, 1, 8, 9, 10, MOST}) {
            boolean is = mark >= 0 && mark <= 9;
            Check.due("paint(5, " + mark + ")", x.paint(5, mark), is && mark != 0);
            Check.due("shut", x.paint(0, mark), false);
            Check.due("a crate is there", x.paint(1, mark), false);
        }
        Check.due("the last one", x.flag(5, 0), 9);
        for (int flag : new int[] {LEAST, -1, 6, 24, 25, MOST}) {
            Check.due("paint(" + flag + ", 1)", x.paint(flag, 1), false);
        }
        Check.due("that mark", x.paint(3, 5), false);
        Check.due("another", x.paint(3, 4), true);
        Check.due("that mark now", x.paint(3, 4), false);
        Check.due("the one ahead again", x.paint(3, 5), true);
        x.tip(0, 1);
        Check.due("the crate has gone", x.paint(1, 3), true);
        Check.due("it is here now", x.paint(3, 3), false);
        Check.due("six were painted", x.count(9), 3 + 2 + 1 + 1);
    }

    private static void minutes() {
        Check.says("n MINUTES (0 .. 60; 0 is no thing done) go by: which it is; NONE, and nothing happens: no such n.");
        TippedCrates x = Check.of(MIDDLE);
        for (int n : new int[] {LEAST, -60, -1, 61, 62, 1000, MOST}) {
            Check.due("minutes(" + n + ")", x.minutes(n), -1);
        }
        Check.due("minutes(0)", x.minutes(0), 0);
        Check.due("no thing done", x.count(9), 0);
        Check.due("minutes(1)", x.minutes(1), 1);
        Check.due("one thing done", x.count(9), 1);
        Check.due("minutes(60)", x.minutes(60), 61);
        Check.due("two things done", x.count(9), 2);
        Check.due("minutes(0)", x.minutes(0), 61);
        Check.due("still two", x.count(9), 2);
        for (int i = 1; i <= 100; i++) {
            Check.due("sixty more", x.minutes(60), 61 + 60 * i);
        }
    }

    private static void undo() {
        Check.says("The last thing done (tip, paint, minutes) is undone: true; false: there is none (the last 40 can "
                + "be).");
        for (int done : new int[] {0, 1, 2, 3, 39, 40, 41, 42, 80, 81}) {
            TippedCrates x = Check.of(MIDDLE + "shut 3 4;shut 4 3;seed 5;");
            int[] ahead = new int[done];
            for (int i = 0; i < done; i++) {
                ahead[i] = done - i > 40 ? 0 : seen(x);
                doThing(x, i);
            }
            int can = Math.min(done, 40);
            Check.due("things that can be undone of " + done, x.count(9), can);
            for (int i = 1; i <= can; i++) {
                Check.due("undo " + i + " of " + done, x.undo(), true);
                Check.due("things left", x.count(9), can - i);
                Check.due("as ahead of thing " + (done - i), seen(x), ahead[done - i]);
            }
            Check.due("no more", x.undo(), false);
            Check.due("no more", x.undo(), false);
            doThing(x, 0);
            Check.due("one again", x.undo(), true);
            Check.due("no more", x.undo(), false);
        }
    }

    /** By turns minutes, a painting of a flag that no crate can come to, and a tipping. */
    private static void doThing(TippedCrates x, int i) {
        if (i % 3 == 0) {
            Check.due("minutes go by", x.minutes(1 + i % 2) > 0, true);
        } else if (i % 3 == 1) {
            Check.due("painted", x.paint(24, 1 + i % 9), true);
        } else {
            boolean tipped = false;
            for (int way = 0; way < 4 && !tipped; way++) {
                tipped = x.tip(0, way) >= 0;
            }
            Check.due("tipped", tipped, true);
        }
    }

    private static int seen(TippedCrates x) {
        return x.count(3) * 10000 + x.count(12) * 10 + x.flag(24, 0);
    }

    private static void then() {
        Check.says("IN n MINUTES of a CRATE: what 0 its flag, 1 the mark on top; NONE: no such ones.");
        TippedCrates x = Check.of(MIDDLE + crate("b", 0, 0));
        for (int crate : new int[] {LEAST, -1, 0, 1, 2, MOST}) {
            for (int n : new int[] {LEAST, -1, 0, 1, 60, 61, MOST}) {
                for (int what : new int[] {LEAST, -1, 0, 1, 2, MOST}) {
                    boolean is = crate >= 0 && crate < 2 && n >= 0 && n <= 60 && (what == 0 || what == 1);
                    int got = x.then(crate, n, what);
                    Check.due("then(" + crate + ", " + n + ", " + what + ")", got >= 0, is);
                    Check.due("then(" + crate + ", " + n + ", " + what + ")", got < 0, got == -1);
                }
            }
        }
        Check.due("in 0 minutes: its flag", x.then(0, 0, 0), 12);
        Check.due("in 0 minutes: its mark", x.then(0, 0, 1), 1);
        int flag = x.then(1, 60, 0);
        int mark = x.then(1, 60, 1);
        x.minutes(60);
        Check.due("sixty minutes on: its flag", x.crate(1, 6), flag);
        Check.due("sixty minutes on: its mark", x.crate(1, 0), mark);
    }

    private static void flagIn() {
        Check.says("IN n MINUTES the mark of a flag; NONE: no such ones.");
        TippedCrates x = Check.of("yard 3 2;shut 2 1;paint 2 1 8;paint 1 0 7;" + A);
        for (int flag : new int[] {LEAST, -1, 0, 5, 6, 25, MOST}) {
            for (int n : new int[] {LEAST, -1, 0, 60, 61, MOST}) {
                boolean is = flag >= 0 && flag < 6 && n >= 0 && n <= 60;
                Check.due("flagIn(" + flag + ", " + n + ")", x.flagIn(flag, n) >= 0, is);
            }
        }
        Check.due("a shut flag stays", x.flagIn(5, 60), 8);
        Check.due("in 0 minutes", x.flagIn(1, 0), 7);
        Check.due("without crates", Check.of("paint 1 0 7;").flagIn(1, 60), 7);
    }

    private static void paidIn() {
        Check.says("IN n MINUTES what was paid so far and by then; NONE: no such n.");
        TippedCrates x = Check.of(MIDDLE + "costs=99;slips=100;");
        for (int n : new int[] {LEAST, -1, 61, MOST}) {
            Check.due("paidIn(" + n + ")", x.paidIn(n), -1);
        }
        Check.due("in 0 minutes", x.paidIn(0), 0);
        Check.due("in 1 minute, slipping", x.paidIn(1), 198);
        x.tip(0, 0);
        Check.due("so far", x.paidIn(0), 99);
        int due = x.paidIn(60);
        Check.due("more by then", due > 99 && due <= 99 + 60 * 198, true);
        x.minutes(60);
        Check.due("sixty minutes on", x.count(4), due);
        Check.due("without crates", new TippedCrates().paidIn(60), 0);
    }

    private static void year() {
        Check.says("YEAR by s SEEDS (1 .. 20) from the text's SEED on: in how many of them a CRATE has a mark on top "
                + "in n MINUTES (0 .. 60).");
        TippedCrates x = Check.of(MIDDLE + "seed 9990;");
        for (int s : new int[] {LEAST, -1, 0, 21, 22, MOST}) {
            Check.due("seeds " + s, x.year(0, 1, 0, s), -1);
        }
        for (int n : new int[] {LEAST, -1, 61, MOST}) {
            Check.due("minutes " + n, x.year(0, 1, n, 1), -1);
        }
        for (int mark : new int[] {LEAST, -1, 10, MOST}) {
            Check.due("mark " + mark, x.year(0, mark, 1, 1), -1);
        }
        for (int crate : new int[] {LEAST, -1, 1, MOST}) {
            Check.due("crate " + crate, x.year(crate, 1, 1, 1), -1);
        }
        Check.due("one seed in 0 minutes", x.year(0, 1, 0, 1), 1);
        Check.due("twenty seeds in 0 minutes", x.year(0, 1, 0, 20), 20);
        Check.due("another mark", x.year(0, 2, 0, 20), 0);
        // In a minute a tipping by 0, 1, 2, 3 brings 5, 3, 6, 4 on top.
        int[] tops = {5, 3, 6, 4};
        for (int s = 1; s <= 20; s++) {
            int[] due = new int[10];
            for (int seed = 9990; seed < 9990 + s; seed++) {
                due[tops[Lots.way(seed, 0, 0)]]++;
            }
            for (int mark = 0; mark < 10; mark++) {
                Check.due("year(0, " + mark + ", 1, " + s + ")", x.year(0, mark, 1, s), due[mark]);
            }
        }
        int all = 0;
        for (int mark = 0; mark < 10; mark++) {
            all += x.year(0, mark, 60, 20);
        }
        Check.due("twenty in sixty minutes", all, 20);
    }

    private static void hold() {
        Check.says("is held in a SLOT (0 .. 2): true; false: no such one.");
        TippedCrates x = new TippedCrates();
        for (int slot : new int[] {LEAST, -1, 3, 4, MOST}) {
            Check.due("hold(" + slot + ")", x.hold(slot), false);
        }
        Check.due("none is held", x.count(11), 0);
        for (int slot = 0; slot < 3; slot++) {
            x.minutes(1);
            Check.due("hold(" + slot + ")", x.hold(slot), true);
            Check.due("so many are held", x.count(11), slot + 1);
        }
        x.minutes(1);
        Check.due("held anew", x.hold(1), true);
        Check.due("still three", x.count(11), 3);
        int[] due = {1, 4, 3};
        for (int slot = 0; slot < 3; slot++) {
            x.restore(slot);
            Check.due("the minute that slot " + slot + " holds", x.count(3), due[slot]);
        }
    }

    private static void restore() {
        Check.says("It goes on from what a SLOT holds (that stays there; nothing can be undone then): true; false, and "
                + "nothing happens: no such one, nothing is held.");
        TippedCrates x = Check.of(MIDDLE);
        x.tip(0, 0);
        x.hold(2);
        for (int slot : new int[] {LEAST, -1, 0, 1, 3, MOST}) {
            Check.due("restore(" + slot + ")", x.restore(slot), false);
            Check.due("still to be undone", x.count(9), 1);
        }
        x.minutes(5);
        for (int i = 0; i < 3; i++) {
            Check.due("restore(2)", x.restore(2), true);
            Check.due("its flag", x.crate(0, 6), 13);
            Check.due("its tippings", x.crate(0, 7), 1);
            Check.due("minute", x.count(3), 0);
            Check.due("nothing can be undone", x.count(9), 0);
            Check.due("nothing can be undone", x.undo(), false);
            x.tip(0, 1);
            Check.due("one thing then", x.count(9), 1);
        }
        Check.due("undone", x.undo(), true);
        Check.due("as it was held", x.crate(0, 6), 13);
        x.restore(2);
        for (int i = 0; i < 45; i++) {
            x.minutes(1);
        }
        Check.due("forty can be undone then", x.count(9), 40);
    }

    private static void count() {
        Check.says("NONE for others.");
        TippedCrates x = Check.of("yard 5 5;");
        for (int what : new int[] {LEAST, -2, -1, 17, 18, MOST}) {
            Check.due("count(" + what + ")", x.count(what), -1);
        }
        Check.says("6 flags with a mark above 0 (bits), 7 marks of all flags, added,");
        for (int flag = 0; flag < 25; flag++) {
            Check.due("flags with a mark", x.count(6), (1 << flag) - 1);
            Check.due("marks, added", x.count(7), 9 * flag);
            Check.due("the greatest", x.count(14), flag == 0 ? 0 : 9);
            x.paint(flag, 9);
        }
        Check.due("all flags", x.count(6), (1 << 25) - 1);
        for (int flag = 0; flag < 25; flag++) {
            x.paint(flag, flag % 2);
        }
        Check.due("1 is above 0", x.count(6), 0b0101010101010101010101010);
        Check.due("ones, added", x.count(7), 12);
        for (int flag = 0; flag < 25; flag++) {
            x.paint(flag, 9);
        }
        Check.due("all marks", x.count(7), 225);
        Check.says("14 the greatest mark of any flag,");
        for (int mark = 9; mark > 0; mark--) {
            x = Check.of("paint 3 3 " + mark + ";paint 0 0 " + (mark - 1) + ";");
            Check.due("the greatest", x.count(14), mark);
        }
        Check.says("15 CRATES that can not be tipped (bits),");
        x = Check.of("yard 2 2;" + crate("a", 0, 0) + crate("b", 1, 0) + crate("c", 0, 1));
        Check.due("only the corner one is stuck", x.count(15), 1);
        x = Check.of("yard 2 2;shut 1 1;" + crate("a", 0, 0) + crate("b", 1, 0) + crate("c", 0, 1));
        Check.due("all are", x.count(15), 7);
        x = Check.of("yard 5 5;" + crate("a", 0, 0) + crate("b", 2, 2) + "shut 3 2;shut 1 2;shut 2 1;shut 2 3;");
        Check.due("shut in", x.count(15), 2);
        countFull();
    }

    private static void countFull() {
        Check.says("8 bytes on the tape, 9 things that can be undone, 10 TOLD ones, 11 SLOTS that hold something, 12 "
                + "how often any was tipped,");
        TippedCrates x = Check.of("yard 5 5;crate a 0 0 9 9 9 9 9 9;crate b 1 0 9 9 9 9 9 9;crate c 4 4 9 9 9 9 9 9;"
                + "costs=99;");
        Check.due("tops, added", x.count(16), 27);
        Check.due("where they are", x.count(13), 1 << 24 | 3);
        for (int i = 0; i < 50; i++) {
            x.tip(2, i % 2 == 0 ? 2 : 0);
            x.tip(0, i % 2 == 0 ? 1 : 3);
        }
        Check.due("all that was tipped", x.count(12), 100);
        Check.due("all that was paid", x.count(4), 9900);
        Check.due("forty at most", x.count(9), 40);
        for (int i = 0; i < 25; i++) {
            x.tell(1, 1, true);
        }
        Check.due("twenty at most", x.count(10), 20);
        x.hold(0);
        x.hold(2);
        Check.due("two of three", x.count(11), 2);
        for (int i = 0; i < 105; i++) {
            x.feed(0, 0, 0, 0, 0);
        }
        Check.due("2,000 at most", x.count(8), 2000);
    }
}
