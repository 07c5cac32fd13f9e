/**
 * Each sentence of Terms III and IV and of promises 13 to 26 and 31 to 34 that names a boundary, with a test of its
 * own. That nothing happens by any of these calls is held to by RefusedTest.
 */
public final class WouldEdgesTest {
    private static final int LEAST = Integer.MIN_VALUE;
    private static final int MOST = Integer.MAX_VALUE;
    private static final String A = "crate a 0 0 1 2 3 4 5 6;";
    private static final String SEVENS = "crate a 0 0 7 7 7 7 7 7;";
    /** Two flags, 0 and 1, between which a crate can only go right and left. */
    private static final String PAIR = "yard 2 2;shut 0 1;shut 1 1;";
    /** Five flags, 0, 2, 4, 6, 8, down which a crate can only go near and far. */
    private static final String LANE = "yard 2 5;shut 1 0;shut 1 1;shut 1 2;shut 1 3;shut 1 4;";
    /** One lane of seventeen flags from 0 to 24. */
    private static final String SNAKE = "yard 5 5;shut 0 1;shut 1 1;shut 2 1;shut 3 1;shut 1 3;shut 2 3;shut 3 3;"
            + "shut 4 3;";
    private static final int[] SNAKE_WAYS = {0, 0, 0, 0, 1, 1, 2, 2, 2, 2, 1, 1, 0, 0, 0, 0};
    /** Crate 2 on flag 0 can go nowhere. */
    private static final String STUCK = "yard 2 2;crate b 1 0 0 0 0 0 0 0;crate c 0 1 9 9 9 9 9 9;" + A;

    private WouldEdgesTest() {
    }

    public static void main(String[] args) {
        standings();
        fewestHowMany();
        fewestWays();
        fewestCanNotBe();
        cheapest();
        cheapestAsNow();
        never();
        nearest();
        spots();
        round();
        richest();
        spell();
        game();
        tops();
        beside();
        alike();
        looks();
        mirror();
        tell();
        forget();
        known();
        rows();
        rowsBehindMore();
        listen();
        marksAsNow();
        Check.end("WouldEdgesTest");
    }

    /** In how many rows of so many ways a lone crate can go, in a yard without shut flags. */
    private static int walks(int wide, int high, int x, int y, int length) {
        if (x < 0 || x >= wide || y < 0 || y >= high) {
            return 0;
        }
        return length == 0 ? 1 : walks(wide, high, x + 1, y, length - 1) + walks(wide, high, x, y + 1, length - 1)
                + walks(wide, high, x - 1, y, length - 1) + walks(wide, high, x, y - 1, length - 1);
    }

    private static void standings() {
        Check.says("A STANDING of a CRATE: on which flag it is, how it lies (24 ways, whatever the marks).");
        for (String crate : new String[] {A, SEVENS, "crate a 0 0 1 1 0 0 0 0;"}) {
            Check.due("5 by 5", Check.of("yard 5 5;" + crate).spots(0), 300);
            Check.due("2 by 2", Check.of("yard 2 2;" + crate).spots(0), 12);
            Check.due("3 by 2", Check.of("yard 3 2;" + crate).spots(0), 72);
            Check.due("two flags", Check.of(PAIR + crate).spots(0), 2);
        }
    }

    private static void fewestHowMany() {
        Check.says("FEWEST: how many (i NONE), else the i-th WAY;");
        TippedCrates x = Check.of(SNAKE + SEVENS);
        int flag = 0;
        int[] steps = {1, 5, -1, -5};
        for (int n = 0; n <= 16; n++) {
            Check.due("to flag " + flag, x.fewest(0, flag, 7, -1), n);
            for (int i = 0; i < n; i++) {
                Check.due("way " + i + " to flag " + flag, x.fewest(0, flag, 7, i), SNAKE_WAYS[i]);
            }
            Check.due("not so many", x.fewest(0, flag, 7, n), -1);
            flag += n < 16 ? steps[SNAKE_WAYS[n]] : 0;
        }
        Check.due("the last flag", flag, 24);
        Check.says("NONE: no such ones, not so many.");
        for (int no : new int[] {LEAST, -2, 16, 17, MOST}) {
            Check.due("the way " + no, x.fewest(0, 24, 7, no), -1);
        }
        for (int i : new int[] {-1, 0}) {
            for (int no : new int[] {LEAST, -1, 1, 3, MOST}) {
                Check.due("crate " + no, x.fewest(no, 24, 7, i), -1);
            }
            for (int no : new int[] {LEAST, -1, 25, MOST}) {
                Check.due("flag " + no, x.fewest(0, no, 7, i), -1);
            }
            for (int no : new int[] {LEAST, -1, 10, MOST}) {
                Check.due("mark " + no, x.fewest(0, 24, no, i), -1);
            }
        }
        Check.due("flag 15 of 4 by 4", Check.of(SEVENS).fewest(0, 15, 7, -1), 6);
        Check.due("flag 16 of 4 by 4", Check.of(SEVENS).fewest(0, 16, 7, -1), -1);
        Check.due("where it is", x.fewest(0, 0, 7, -1), 0);
        Check.due("no way to where it is", x.fewest(0, 0, 7, 0), -1);
    }

    private static void fewestWays() {
        Check.says("the i-th WAY, of as few the lowest WAY first, then the next one.");
        int[][] corners = {{0, 0, 24}, {4, 0, 20}, {0, 4, 4}, {4, 4, 0}};
        int[][] due = {{0, 1}, {1, 2}, {0, 3}, {2, 3}};
        for (int corner = 0; corner < 4; corner++) {
            int[] at = corners[corner];
            TippedCrates x = Check.of("yard 5 5;crate a " + at[0] + " " + at[1] + " 7 7 7 7 7 7;");
            Check.due("from corner to corner", x.fewest(0, at[2], 7, -1), 8);
            for (int i = 0; i < 8; i++) {
                Check.due("way " + i + " from corner " + corner, x.fewest(0, at[2], 7, i), due[corner][i / 4]);
            }
        }
        // Two ways of two to flag 4 of 3 by 3; by 0 and 1 the 3 comes on top, by 1 and 0 the 5.
        TippedCrates x = Check.of("yard 3 3;" + A);
        Check.due("by 0, 1", x.fewest(0, 4, 3, 0) * 10 + x.fewest(0, 4, 3, 1), 1);
        Check.due("by 1, 0", x.fewest(0, 4, 5, 0) * 10 + x.fewest(0, 4, 5, 1), 10);
    }

    private static void fewestCanNotBe() {
        Check.says("-2: it can not be (i NONE or not);");
        TippedCrates x = Check.of(SNAKE + A + "crate b 4 2 1 1 1 1 1 1;");
        for (int i : new int[] {-1, 0, 1, 16, 99, MOST}) {
            Check.due("onto a shut flag", x.fewest(0, 5, 1, i), -2);
            Check.due("onto another crate's flag", x.fewest(0, 14, 1, i), -2);
            Check.due("behind another crate", x.fewest(0, 13, 1, i), -2);
            Check.due("a mark that it has not", x.fewest(0, 1, 9, i), -2);
            Check.due("a mark that is not on top there", x.fewest(0, 1, 1, i), -2);
            Check.due("another mark where it is", x.fewest(0, 0, 2, i), -2);
        }
        Check.due("as far as it can go", x.fewest(0, 9, 3, -1), 5);
        x = Check.of(STUCK);
        Check.due("stuck, where it is", x.fewest(2, 0, 1, -1), 0);
        Check.due("stuck, another mark", x.fewest(2, 0, 2, -1), -2);
        Check.due("stuck, another flag", x.fewest(2, 3, 1, -1), -2);
        // What was found for a crate that can go anywhere does not go for one that can go nowhere.
        x = Check.of("yard 5 5;shut 1 0;shut 0 1;" + A + "crate b 2 2 1 2 3 4 5 6;");
        for (int flag = 0; flag < 25; flag++) {
            for (int mark = 1; mark < 7; mark++) {
                boolean isThere = flag == 0 && mark == 1;
                x.spots(1);
                Check.due("stuck, to flag " + flag + " with " + mark, x.fewest(0, flag, mark, -1), isThere ? 0 : -2);
            }
        }
    }

    private static void cheapest() {
        Check.says("CHEAPEST; -2: it can not be; NONE: no such ones.");
        TippedCrates x = Check.of(SNAKE + A + "costs=9999;");
        Check.due("where it is, for nothing", x.cheapest(0, 0), 0);
        Check.due("99 each", x.cheapest(0, 1), 99);
        Check.due("99 each, all along", x.cheapest(0, 24), 16 * 99);
        Check.due("a shut flag", x.cheapest(0, 5), -2);
        for (int no : new int[] {LEAST, -1, 1, MOST}) {
            Check.due("crate " + no, x.cheapest(no, 0), -1);
        }
        for (int no : new int[] {LEAST, -1, 25, MOST}) {
            Check.due("flag " + no, x.cheapest(0, no), -1);
        }
        Check.due("flag 3 of 2 by 2", Check.of("yard 2 2;" + A).cheapest(0, 3), 2);
        Check.due("flag 4 of 2 by 2", Check.of("yard 2 2;" + A).cheapest(0, 4), -1);
        x = Check.of(SNAKE + A + "costs=0-1;");
        Check.due("for nothing", x.cheapest(0, 24), 0);
        x = Check.of(STUCK);
        Check.due("stuck, where it is", x.cheapest(2, 0), 0);
        Check.due("stuck, another crate's flag", x.cheapest(2, 1), -2);
        Check.due("stuck, an open flag", x.cheapest(2, 3), -2);
        // Each flag of the middle row costs 99, so that the straight way costs four times as much.
        x = Check.of("yard 5 5;crate a 0 2 1 2 3 4 5 6;costs=if (top-2)*(top-2)<1 then 99 else 8;");
        Check.due("about the middle row: up, four along, down", x.cheapest(0, 14), 8 * 5 + 99);
    }

    private static void cheapestAsNow() {
        Check.says("each asked as it would be then (flag as now, tips, minute as now).");
        TippedCrates x = Check.of(LANE + A + "costs=tips*10+minute;prints=0;");
        Check.due("tips and minute 0", x.cheapest(0, 8), 0);
        x.tip(0, 1);
        Check.due("tips 1, four times less one", x.cheapest(0, 8), 30);
        x = Check.of(LANE + A + "paint 0 1 5;paint 0 2 6;costs=flag;");
        Check.due("marks as now, though it would print", x.cheapest(0, 8), 11);
        x.tip(0, 1);
        Check.due("its own print is there now", x.cheapest(0, 8), 6);
        Check.due("no cost of the flag from which", x.cheapest(0, 0), 0);
        x = Check.of(LANE + A + "costs=over*10+beneath;");
        // On top 3, 2, 4, 1, beneath 4, 1, 3, 2 down the lane.
        Check.due("how it would lie", x.cheapest(0, 8), 34 + 21 + 43 + 12);
        x = Check.of(LANE + A + "costs=way*10+which+left+top;");
        Check.due("where it would be", x.cheapest(0, 8), 11 + 12 + 13 + 14);
    }

    private static void never() {
        Check.says("NEVER (bits); NONE: no such ones.");
        int all = (1 << 25) - 1;
        TippedCrates x = Check.of("yard 5 5;" + SEVENS);
        Check.due("7 everywhere", x.never(0, 7), 0);
        Check.due("0 nowhere", x.never(0, 0), all);
        Check.due("9 nowhere", x.never(0, 9), all);
        x = Check.of("yard 5 5;shut 4 4;shut 0 4;" + SEVENS);
        Check.due("not on shut flags", x.never(0, 7), 1 << 24 | 1 << 20);
        x = Check.of(SNAKE + SEVENS + "crate b 4 4 1 1 1 1 1 1;crate c 4 2 1 1 1 1 1 1;");
        int open = 0b1000011111;
        Check.due("not behind others", x.never(0, 7), all & ~open);
        Check.due("one on its flag alone", x.never(1, 1), all & ~(1 << 24 | 1 << 23 | 1 << 22 | 1 << 21 | 1 << 20
                | 1 << 15 | 1 << 10 | 1 << 11 | 1 << 12 | 1 << 13));
        x = Check.of(STUCK);
        Check.due("stuck", x.never(2, 1), 0b1110);
        Check.due("stuck, another mark", x.never(2, 2), 0b1111);
        for (int no : new int[] {LEAST, -1, 3, MOST}) {
            Check.due("crate " + no, x.never(no, 1), -1);
        }
        for (int no : new int[] {LEAST, -1, 10, MOST}) {
            Check.due("mark " + no, x.never(2, no), -1);
        }
    }

    private static void nearest() {
        Check.says("NEAREST: what 0 which flag, 1 by how many; -2: nowhere; NONE: no such ones.");
        TippedCrates x = Check.of("yard 5 5;crate a 2 2 1 2 3 4 5 6;");
        int[] flags = {-2, 12, 2, 17, 7, 13, 11, -2, -2, -2};
        int[] tippings = {-2, 0, 2, 1, 1, 1, 1, -2, -2, -2};
        for (int mark = 0; mark < 10; mark++) {
            Check.due("nearest " + mark, x.nearest(0, mark, 0), flags[mark]);
            Check.due("nearest " + mark + " by", x.nearest(0, mark, 1), tippings[mark]);
        }
        for (int what : new int[] {LEAST, -1, 2, MOST}) {
            Check.due("what " + what, x.nearest(0, 1, what), -1);
            Check.due("what " + what + ", nowhere", x.nearest(0, 9, what), -1);
        }
        for (int what = 0; what < 2; what++) {
            for (int no : new int[] {LEAST, -1, 1, MOST}) {
                Check.due("crate " + no, x.nearest(no, 1, what), -1);
            }
            for (int no : new int[] {LEAST, -1, 10, MOST}) {
                Check.due("mark " + no, x.nearest(0, no, what), -1);
            }
        }
        Check.says("NEAREST of a mark: the flag on which it can be with that mark on top by fewest tippings, of alike "
                + "ones the lowest; by how many.");
        x = Check.of("yard 5 5;crate a 2 2 1 2 8 8 8 8;");
        Check.due("of four the lowest", x.nearest(0, 8, 0), 7);
        x = Check.of("yard 5 5;shut 2 1;crate a 2 2 1 2 8 8 8 8;");
        Check.due("of three the lowest", x.nearest(0, 8, 0), 11);
        x = Check.of("yard 5 5;shut 2 1;shut 1 2;crate a 2 2 1 2 8 8 8 8;");
        Check.due("of two the lowest", x.nearest(0, 8, 0), 13);
        x = Check.of("yard 5 5;shut 1 0;shut 0 1;" + A + "crate b 2 2 1 2 3 4 5 6;");
        for (int mark = 0; mark < 10; mark++) {
            x.spots(1);
            Check.due("stuck, " + mark, x.nearest(0, mark, 0), mark == 1 ? 0 : -2);
            Check.due("stuck, " + mark + " by", x.nearest(0, mark, 1), mark == 1 ? 0 : -2);
        }
        x = Check.of(SNAKE + "crate a 0 0 1 1 2 2 1 1;");
        Check.due("round the first corner", x.nearest(0, 2, 0) * 100 + x.nearest(0, 2, 1), 905);
        x = Check.of("crate a 3 3 0 9 9 9 9 9;");
        Check.due("flag 15, by none", x.nearest(0, 0, 0) * 100 + x.nearest(0, 0, 1), 1500);
    }

    private static void spots() {
        Check.says("SPOTS: how many STANDINGS it can come to, as now, too.");
        Check.due("stuck: as now", Check.of(STUCK).spots(2), 1);
        Check.due("two", Check.of(PAIR + A).spots(0), 2);
        Check.due("a lane", Check.of(SNAKE + A).spots(0), 17);
        Check.due("a lane with another crate in it", Check.of(SNAKE + A + "crate b 4 2 1 1 1 1 1 1;").spots(0), 6);
        Check.due("all of a yard", Check.of("yard 5 5;" + A).spots(0), 300);
        Check.says("SPOTS; NONE: no such CRATE.");
        for (int no : new int[] {LEAST, -1, 3, MOST}) {
            Check.due("crate " + no, Check.of(STUCK).spots(no), -1);
        }
        Check.due("without crates", new TippedCrates().spots(0), -1);
    }

    private static void round() {
        Check.says("ROUND: the fewest tippings (1 or more) behind which it has the STANDING that it has now; or is on "
                + "its flag, but lies otherwise.");
        Check.due("there and back, not none", Check.of(PAIR + A).round(0, 0), 2);
        Check.due("never otherwise", Check.of(PAIR + A).round(0, 1), -2);
        Check.due("about a square", Check.of("yard 2 2;" + A).round(0, 1), 4);
        Check.due("whatever the marks", Check.of("yard 2 2;" + SEVENS).round(0, 1), 4);
        Check.due("from the last flag", Check.of("yard 5 5;crate a 4 4 1 2 3 4 5 6;").round(0, 1), 4);
        Check.due("there and back from the last flag", Check.of("yard 5 5;crate a 4 4 1 2 3 4 5 6;").round(0, 0), 2);
        String ring = "yard 4 3;shut 1 1;shut 2 1;prints=0;" + A;
        Check.due("about two shut flags", Check.of(ring).round(0, 1), 10);
        TippedCrates x = Check.of(ring);
        for (int way : new int[] {0, 0, 0, 1, 1, 2, 2, 2, 3, 3}) {
            x.tip(0, way);
        }
        Check.due("it is back there", x.crate(0, 6), 0);
        Check.due("but lies otherwise", x.crate(0, 0), 2);
        Check.due("about one shut flag it never does", Check.of("yard 3 3;shut 1 1;" + A).round(0, 1), -2);
        Check.says("ROUND: what 0 as now, 1 otherwise; -2: it can not be; NONE: no such ones.");
        Check.due("stuck", Check.of(STUCK).round(2, 0), -2);
        Check.due("stuck", Check.of(STUCK).round(2, 1), -2);
        for (int what : new int[] {LEAST, -1, 2, MOST}) {
            Check.due("what " + what, x.round(0, what), -1);
        }
        for (int no : new int[] {LEAST, -1, 1, MOST}) {
            Check.due("crate " + no, x.round(no, 0), -1);
            Check.due("crate " + no, x.round(no, 1), -1);
        }
    }

    private static void richest() {
        Check.says("RICHEST in n (0 .. 40): of n tippings one behind the other the marks that are beneath behind each, "
                + "added, most; the WAY of the first, of alike ones the lowest.");
        TippedCrates x = Check.of(PAIR + A);
        for (int n = 0; n <= 40; n++) {
            Check.due("richest in " + n, x.richest(0, n, 0), (n + 1) / 2 * 6 + n / 2 * 2);
            Check.due("its way in " + n, x.richest(0, n, 1), n == 0 ? -2 : 0);
        }
        x = Check.of("yard 5 5;crate a 2 2 9 9 9 9 9 9;");
        Check.due("most of all", x.richest(0, 40, 0), 360);
        Check.due("of alike ones the lowest", x.richest(0, 40, 1), 0);
        x = Check.of("yard 5 5;crate a 4 4 0 0 0 0 0 0;");
        Check.due("least of all", x.richest(0, 40, 0), 0);
        Check.due("of left and far the lowest", x.richest(0, 40, 1), 2);
        Check.says("RICHEST: what 0 how much, 1 the WAY (n 0: -2); -2: n can not be; NONE: no such ones.");
        x = Check.of(STUCK);
        Check.due("stuck, none", x.richest(2, 0, 0), 0);
        Check.due("stuck, none: no way", x.richest(2, 0, 1), -2);
        for (int n : new int[] {1, 2, 40}) {
            Check.due("stuck", x.richest(2, n, 0), -2);
            Check.due("stuck", x.richest(2, n, 1), -2);
        }
        for (int n : new int[] {LEAST, -1, 41, 42, MOST}) {
            Check.due("n " + n, x.richest(0, n, 0), -1);
            Check.due("n " + n + ", stuck", x.richest(2, n, 1), -1);
        }
        for (int what : new int[] {LEAST, -1, 2, MOST}) {
            Check.due("what " + what, x.richest(0, 0, what), -1);
            Check.due("what " + what, x.richest(0, 40, what), -1);
        }
        for (int no : new int[] {LEAST, -1, 3, MOST}) {
            Check.due("crate " + no, x.richest(no, 0, 0), -1);
        }
    }

    private static void spell() {
        Check.says("SPELL of a number and n (1 .. 6): in how many rows of n WAYS, each of which can be, the marks "
                + "beneath behind each are the digits of the number, of n digits, the highest first (noughts ahead, if "
                + "it has fewer).");
        TippedCrates x = Check.of(PAIR + A);
        int[] due = {6, 62, 626, 6262, 62626, 626262};
        TippedCrates noughts = Check.of(PAIR + "crate a 0 0 0 0 0 0 0 3;");
        int[] few = {3, 30, 303, 3030, 30303, 303030};
        for (int n = 1; n <= 6; n++) {
            Check.due("there and back " + n, x.spell(0, due[n - 1], n), 1);
            Check.due("one more", x.spell(0, due[n - 1] + 1, n), 0);
            Check.due("noughts between", noughts.spell(0, few[n - 1], n), 1);
            noughts.tip(0, 0);
            Check.due("a nought ahead", noughts.spell(0, n == 1 ? 0 : few[n - 2], n), 1);
            noughts.undo();
            TippedCrates all = Check.of("yard 5 5;crate a 2 2 0 0 0 0 0 0;");
            Check.due("all noughts", all.spell(0, 0, n), walks(5, 5, 2, 2, n));
        }
        TippedCrates nines = Check.of("yard 3 2;crate a 0 0 9 9 9 9 9 9;");
        for (int n = 1, ten = 10; n <= 6; n++, ten *= 10) {
            Check.due("all nines", nines.spell(0, ten - 1, n), walks(3, 2, 0, 0, n));
            Check.due("one digit more", nines.spell(0, ten, n), -1);
        }
        Check.says("SPELL; NONE: no such ones, a number below 0 or of more than n digits.");
        for (int number : new int[] {LEAST, -9, -1, 1000000, MOST}) {
            Check.due("number " + number, nines.spell(0, number, 6), -1);
        }
        for (int n : new int[] {LEAST, -1, 0, 7, 8, MOST}) {
            Check.due("n " + n, nines.spell(0, 0, n), -1);
        }
        for (int no : new int[] {LEAST, -1, 1, MOST}) {
            Check.due("crate " + no, nines.spell(no, 0, 1), -1);
        }
        Check.due("stuck: no row", Check.of(STUCK).spell(2, 0, 1), 0);
    }

    private static void game() {
        Check.says("GAME of n (1 .. 6): two tip the CRATE by turns, the first first, n times in all, or till it can "
                + "not be;");
        TippedCrates x = Check.of(PAIR + A);
        for (int n = 1; n <= 6; n++) {
            Check.due("there and back " + n, x.game(0, n, 0), n % 2 == 1 ? 5 : 1);
            Check.due("its way", x.game(0, n, 1), 0);
        }
        // From the middle of three flags: right brings 5 on top, left 6; from there only back to 1.
        x = Check.of("yard 3 2;shut 0 1;shut 1 1;shut 2 1;crate a 1 0 1 2 3 4 5 6;");
        Check.due("the first would have most", x.game(0, 1, 0), 6);
        Check.due("by left", x.game(0, 1, 1), 2);
        Check.due("both come back", x.game(0, 2, 0), 1);
        Check.due("of as good ones the lowest", x.game(0, 2, 1), 0);
        // From the middle of five flags: the other comes back from either side, or goes on to 2.
        x = Check.of("yard 5 2;shut 0 1;shut 1 1;shut 2 1;shut 3 1;shut 4 1;crate a 2 0 3 2 0 0 5 6;");
        Check.due("the other would have least", x.game(0, 2, 0), 2);
        Check.due("and keeps it so", x.game(0, 6, 0), 2);
        // From the second of five flags: right lets the other go on to 2, from left it can only come back to 3.
        x = Check.of("yard 5 2;shut 0 1;shut 1 1;shut 2 1;shut 3 1;shut 4 1;crate a 1 0 3 2 0 0 5 6;");
        Check.due("the first lets it not", x.game(0, 2, 0), 3);
        Check.due("by left", x.game(0, 2, 1), 2);
        Check.says("GAME: what 0 which mark, 1 the WAY (-2: it can not be tipped); NONE: no such ones.");
        x = Check.of(STUCK);
        for (int n = 1; n <= 6; n++) {
            Check.due("stuck: the mark on top", x.game(2, n, 0), 1);
            Check.due("stuck: no way", x.game(2, n, 1), -2);
            TippedCrates shutIn = Check.of("yard 5 5;shut 1 0;shut 0 1;" + SEVENS);
            Check.due("shut in: no way", shutIn.game(0, n, 1), -2);
        }
        for (int n : new int[] {LEAST, -1, 0, 7, 8, MOST}) {
            Check.due("n " + n, x.game(0, n, 0), -1);
            Check.due("n " + n + ", stuck", x.game(2, n, 1), -1);
        }
        for (int what : new int[] {LEAST, -1, 2, MOST}) {
            Check.due("what " + what, x.game(0, 1, what), -1);
        }
        for (int no : new int[] {LEAST, -1, 3, MOST}) {
            Check.due("crate " + no, x.game(no, 1, 0), -1);
        }
    }

    private static void tops() {
        Check.says("TOPS (bits); NONE: no such CRATE.");
        Check.due("stuck: as now", Check.of(STUCK).tops(2), 1 << 1);
        Check.due("0 is a mark too", Check.of(STUCK).tops(0), 1);
        Check.due("9 is the greatest", Check.of(STUCK).tops(1), 1 << 9);
        Check.due("two", Check.of(PAIR + A).tops(0), 1 << 1 | 1 << 5);
        Check.due("all six", Check.of(A).tops(0), 0b1111110);
        Check.due("three corners of a square", Check.of("yard 2 2;" + A).tops(0), 1 << 1 | 1 << 3 | 1 << 5);
        for (int no : new int[] {LEAST, -1, 3, MOST}) {
            Check.due("crate " + no, Check.of(STUCK).tops(no), -1);
        }
    }

    private static void beside() {
        Check.says("BESIDE; -2: it can not be; NONE: no such ones, one and the same.");
        TippedCrates x = Check.of("yard 5 2;crate a 4 0 1 1 1 1 1 1;crate b 0 1 1 1 1 1 1 1;");
        Check.due("flags 4 and 5 are not next to one another", x.beside(0, 1), 4);
        Check.due("nor 5 and 4", x.beside(1, 0), 4);
        Check.due("one and the same", x.beside(0, 0), -1);
        Check.due("one and the same", x.beside(1, 1), -1);
        for (int no : new int[] {LEAST, -1, 2, 3, MOST}) {
            Check.due("crate " + no, x.beside(no, 0), -1);
            Check.due("other " + no, x.beside(0, no), -1);
            Check.due("both " + no, x.beside(no, no), -1);
        }
        x = Check.of(STUCK);
        Check.due("next to it, stuck", x.beside(2, 0), 0);
        Check.due("next to it, stuck", x.beside(2, 1), 0);
        Check.due("aslant: one tipping", x.beside(0, 1), 1);
        x = Check.of("yard 3 3;shut 1 0;shut 0 1;" + A + "crate b 1 1 1 1 1 1 1 1;");
        Check.due("aslant, shut in", x.beside(0, 1), -2);
        Check.due("only shut flags are next to it", x.beside(1, 0), -2);
        Check.says("BESIDE another CRATE: the fewest tippings behind which it is on a flag next to it (right, near, "
                + "left, far).");
        int[][] nexts = {{3, 2}, {2, 3}, {1, 2}, {2, 1}};
        for (int[] next : nexts) {
            String b = "crate b " + next[0] + " " + next[1] + " 1 1 1 1 1 1;";
            Check.due("next to it", Check.of("yard 5 5;crate a 2 2 1 1 1 1 1 1;" + b).beside(1, 0), 0);
        }
        Check.due("all along", Check.of(SNAKE + A + "crate b 4 4 1 1 1 1 1 1;").beside(0, 1), 15);
    }

    private static void alike() {
        Check.says("ALIKE: 1, 0; NONE: no such CRATES.");
        TippedCrates x = Check.of("prints=0;" + A + "crate b 3 3 1 2 3 4 5 6;crate c 0 3 2 1 3 4 5 6;");
        Check.due("as it lies", x.alike(0, 1), 1);
        Check.due("one and the same", x.alike(0, 0), 1);
        Check.due("its mirror image", x.alike(0, 2), 0);
        for (int i = 0; i < 24; i++) {
            x.tip(1, i % 7 == 0 ? 2 : i % 5 == 0 ? 0 : i % 3 == 0 ? 1 : 3);
            Check.due("however it was tipped", x.alike(0, 1), 1);
            Check.due("however it was tipped", x.alike(1, 2), 0);
        }
        for (int no : new int[] {LEAST, -1, 3, MOST}) {
            Check.due("crate " + no, x.alike(no, 0), -1);
            Check.due("other " + no, x.alike(0, no), -1);
            Check.due("both " + no, x.alike(no, no), -1);
        }
        x = Check.of("crate a 0 0 9 9 9 9 9 9;crate b 1 0 9 9 9 9 9 8;crate c 2 0 9 8 9 9 9 9;");
        Check.due("one mark apart", x.alike(0, 1), 0);
        Check.due("one mark elsewhere", x.alike(1, 2), 1);
    }

    private static void looks() {
        Check.says("LOOKS; NONE: no such CRATE.");
        String[] marks = {"1 2 3 4 5 6", "0 0 0 0 0 0", "9 9 9 9 9 9", "1 0 0 0 0 0", "1 1 0 0 0 0", "1 0 1 0 0 0",
            "1 2 0 0 0 0", "1 0 2 0 0 0", "1 1 2 2 3 3", "1 2 1 2 1 2"};
        int[] due = {24, 1, 1, 6, 3, 12, 6, 24, 6, 8};
        for (int i = 0; i < marks.length; i++) {
            TippedCrates x = Check.of("crate a 1 1 " + marks[i] + ";prints=0;");
            Check.due("looks of " + marks[i], x.looks(0), due[i]);
            x.tip(0, 1);
            Check.due("looks of it tipped", x.looks(0), due[i]);
            for (int no : new int[] {LEAST, -1, 1, MOST}) {
                Check.due("crate " + no, x.looks(no), -1);
            }
        }
    }

    private static void mirror() {
        Check.says("MIRROR: 1, 0; NONE: no such CRATE.");
        String[] marks = {"1 2 3 4 5 6", "0 0 0 0 0 0", "1 2 3 4 5 5", "1 1 2 3 4 5", "2 3 1 1 4 5", "1 2 1 2 3 4",
            "1 2 3 1 2 4", "0 1 2 3 4 0", "0 4 2 3 4 0"};
        int[] due = {0, 1, 1, 1, 1, 1, 0, 0, 1};
        for (int i = 0; i < marks.length; i++) {
            TippedCrates x = Check.of("crate a 1 1 " + marks[i] + ";prints=0;");
            Check.due("mirror of " + marks[i], x.mirror(0), due[i]);
            x.tip(0, 0);
            Check.due("mirror of it tipped", x.mirror(0), due[i]);
            for (int no : new int[] {LEAST, -1, 1, MOST}) {
                Check.due("crate " + no, x.mirror(no), -1);
            }
        }
    }

    private static void tell() {
        Check.says("has a mark beneath behind the i-th tipping (1 .. 5), or has not; 20 at most, numbered from 0 on;");
        TippedCrates x = new TippedCrates();
        for (int i : new int[] {LEAST, -1, 0, 6, 7, MOST}) {
            Check.due("i " + i, x.tell(i, 1, true), -1);
            Check.due("i " + i, x.tell(i, 1, false), -1);
        }
        for (int mark : new int[] {LEAST, -1, 10, MOST}) {
            Check.due("mark " + mark, x.tell(1, mark, true), -1);
        }
        Check.due("none was told", x.count(10), 0);
        int[][] edges = {{1, 0}, {1, 9}, {5, 0}, {5, 9}};
        for (int n = 0; n < 20; n++) {
            Check.due("number", x.tell(edges[n % 4][0], edges[n % 4][1], n % 3 == 0), n);
            Check.due("so many", x.count(10), n + 1);
        }
        Check.due("a 21st", x.tell(1, 1, true), -1);
        Check.due("twenty", x.count(10), 20);
        Check.due("forgotten", x.forget(), 20);
        Check.due("numbered from 0 on", x.tell(1, 1, true), 0);
    }

    private static void forget() {
        Check.says("All that was TOLD is forgotten: how many there were.");
        for (int told : new int[] {0, 1, 2, 19, 20}) {
            TippedCrates x = Check.of(PAIR + A);
            for (int i = 0; i < told; i++) {
                x.tell(1, 9, true);
            }
            Check.due("rows by all of them", x.rows(told, 0, 1, 0), told == 0 ? 1 : 0);
            Check.due("there were", x.forget(), told);
            Check.due("there are", x.count(10), 0);
            Check.due("there were none", x.forget(), 0);
            Check.due("rows by none", x.rows(0, 0, 1, 0), 1);
            Check.due("rows by one", x.rows(1, 0, 1, 0), -1);
        }
    }

    private static void known() {
        Check.says("KNOWN by k: the first k.");
        TippedCrates x = Check.of("yard 5 5;crate a 2 2 1 2 3 4 5 6;");
        for (int i = 0; i < 19; i++) {
            x.tell(1 + i % 5, 9, false);
        }
        x.tell(1, 9, true);
        for (int k = 0; k <= 20; k++) {
            Check.due("known by " + k, x.rows(k, 0, 5, 0), k < 20 ? walks(5, 5, 2, 2, 5) : 0);
            Check.due("known by " + k, x.listen(k, 0, 5) > 0, k < 20);
        }
        for (int k : new int[] {LEAST, -1, 21, MOST}) {
            Check.due("known by " + k, x.rows(k, 0, 5, 0), -1);
            Check.due("known by " + k, x.rows(k, 0, 5, 1), -1);
            Check.due("known by " + k, x.listen(k, 0, 5), -1);
        }
        x = Check.of("yard 5 5;crate a 2 2 1 2 3 4 5 6;");
        x.tell(1, 6, false);
        x.tell(1, 4, false);
        x.tell(1, 5, false);
        x.tell(1, 3, false);
        for (int k = 0; k <= 4; k++) {
            Check.due("one fewer by each", x.rows(k, 0, 1, 0), 4 - k);
            Check.due("the first that is left", x.rows(k, 0, 1, 1), k < 4 ? k : -2);
        }
    }

    private static void rows() {
        Check.says("ROWS, as KNOWN by k: what 0 how many FIT, 1 the first (-2: none); NONE: no such ones.");
        TippedCrates x = Check.of(PAIR + A);
        int[] first = {0, 2, 8, 34, 136};
        int[] beneath = {6, 2, 6, 2, 6};
        TippedCrates middle = Check.of("yard 5 5;crate a 2 2 1 2 3 4 5 6;");
        int[] firstOfAll = {0, 0, 1, 5, 22};
        for (int l = 1; l <= 5; l++) {
            Check.due("there and back", x.rows(0, 0, l, 0), 1);
            Check.due("its ways by 4", x.rows(0, 0, l, 1), first[l - 1]);
            Check.due("all of them", middle.rows(0, 0, l, 0), walks(5, 5, 2, 2, l));
            Check.due("the first of all", middle.rows(0, 0, l, 1), firstOfAll[l - 1]);
            TippedCrates y = Check.of(PAIR + A);
            y.tell(l, beneath[l - 1], true);
            y.tell(l, beneath[l - 1], false);
            Check.due("as is so", y.rows(1, 0, l, 0), 1);
            Check.due("both can not be", y.rows(2, 0, l, 0), 0);
            Check.due("both can not be", y.rows(2, 0, l, 1), -2);
        }
        for (int l : new int[] {LEAST, -1, 0, 6, 7, MOST}) {
            Check.due("l " + l, x.rows(0, 0, l, 0), -1);
            Check.due("l " + l, x.rows(0, 0, l, 1), -1);
        }
        for (int what : new int[] {LEAST, -1, 2, MOST}) {
            Check.due("what " + what, x.rows(0, 0, 1, what), -1);
        }
        for (int no : new int[] {LEAST, -1, 1, MOST}) {
            Check.due("crate " + no, x.rows(0, no, 1, 0), -1);
        }
        x = Check.of("yard 2 2;shut 0 1;shut 1 0;shut 0 0;crate a 1 1 1 2 3 4 5 6;");
        Check.due("shut in", x.rows(0, 0, 1, 1), -2);
        x = Check.of("yard 2 2;shut 0 0;shut 0 1;crate a 1 1 1 2 3 4 5 6;");
        Check.due("far alone", x.rows(0, 0, 1, 1), 3);
        Check.due("far, near, far, near, far", x.rows(0, 0, 5, 1), 3 * 256 + 64 + 3 * 16 + 4 + 3);
        Check.due("stuck", Check.of(STUCK).rows(0, 2, 1, 0), 0);
        Check.due("stuck", Check.of(STUCK).rows(0, 2, 5, 1), -2);
    }

    private static void rowsBehindMore() {
        Check.says("(of what is behind more than l nothing is so, nor not so: such a row does not FIT)");
        for (int i = 1; i <= 5; i++) {
            for (int l = 1; l <= 5; l++) {
                for (boolean so : new boolean[] {true, false}) {
                    TippedCrates x = Check.of(PAIR + "crate a 0 0 7 7 7 7 7 7;");
                    x.tell(i, so ? 7 : 3, so);
                    boolean fits = i <= l;
                    Check.due("told of " + i + ", rows of " + l, x.rows(1, 0, l, 0), fits ? 1 : 0);
                    Check.due("told of " + i + ", not known", x.rows(0, 0, l, 0), 1);
                    Check.due("told of " + i + ", listen of " + l, x.listen(1, 0, l), fits ? 1 : -2);
                }
            }
        }
    }

    private static void listen() {
        Check.says("LISTEN of l of a CRATE: the i (1 .. l) of which, once the mark beneath behind it is told, fewest "
                + "are left, at worst; of alike ones the first.");
        TippedCrates x = Check.of(LANE + A);
        // Down the lane beneath are 4, 1, 3, 2: of two rows of two the second tipping tells which.
        Check.due("of 1", x.listen(0, 0, 1), 1);
        Check.due("of 2", x.listen(0, 0, 2), 2);
        Check.due("all alike: the first", Check.of("yard 5 5;" + SEVENS).listen(0, 0, 5), 1);
        Check.due("one row: the first", Check.of(PAIR + A).listen(0, 0, 5), 1);
        x = Check.of("yard 5 5;crate a 2 2 1 2 3 4 5 6;");
        Check.due("four ways, four marks", x.listen(0, 0, 1), 1);
        // Of sixteen rows of two, eight go straight on or back, whereby the top or what was beneath is beneath.
        Check.due("four at worst by the first, eight by the second",
                Check.of("yard 5 5;crate a 2 2 1 1 3 4 5 6;").listen(0, 0, 2), 1);
        for (int mark = 0; mark < 10; mark++) {
            String sides = (" " + mark).repeat(4);
            TippedCrates y = Check.of("yard 5 5;crate a 2 2 " + (mark + 1) % 10 + " " + (mark + 2) % 10 + sides + ";");
            Check.due("sixteen " + mark + " by the first, eight by the second", y.listen(0, 0, 2), 2);
        }
        Check.says("LISTEN, as KNOWN by k; -2: none FIT; NONE: no such ones.");
        x.tell(1, 9, true);
        Check.due("none fit", x.listen(1, 0, 1), -2);
        Check.due("none fit", x.listen(1, 0, 5), -2);
        Check.due("not yet known", x.listen(0, 0, 1), 1);
        for (int l : new int[] {LEAST, -1, 0, 6, 7, MOST}) {
            Check.due("l " + l, x.listen(0, 0, l), -1);
            Check.due("l " + l + ", none fit", x.listen(1, 0, l), -1);
        }
        for (int no : new int[] {LEAST, -1, 1, MOST}) {
            Check.due("crate " + no, x.listen(0, no, 1), -1);
        }
        for (int k : new int[] {LEAST, -1, 2, 21, MOST}) {
            Check.due("k " + k, x.listen(k, 0, 1), -1);
        }
        Check.due("stuck", Check.of(STUCK).listen(0, 2, 1), -2);
    }

    private static void marksAsNow() {
        Check.says("marks of faces and of flags are as now, nothing is printed or taken up, other CRATES stay where "
                + "they are,");
        // By what is taken up the crate would have nines all over; as it is now it has none.
        String paints = "";
        for (int i = 0; i < 9; i++) {
            paints += "paint " + i % 3 + " " + i / 3 + " 9;";
        }
        TippedCrates x = Check.of("yard 3 3;" + paints + A + "prints=0;takes=1;");
        Check.due("no nine on top", x.tops(0), 0b1111110);
        Check.due("no nine beneath", x.richest(0, 1, 0), 6);
        Check.due("no nine spelt", x.spell(0, 9, 1), 0);
        Check.due("no nine heard", x.rows(0, 0, 1, 0), 2);
        Check.due("never a nine", x.never(0, 9), 0b111111111);
        Check.due("no nine by a game", x.game(0, 1, 0), 5);
        x.tip(0, 0);
        Check.due("now it has one", x.tops(0) >> 9, 1);
        x = Check.of("yard 2 2;" + A + "crate b 1 1 1 1 1 1 1 1;");
        Check.due("the other stays", x.cheapest(0, 3), -2);
        Check.due("the other stays", x.never(0, 1) >> 3, 1);
        Check.due("but not in minutes", x.flagIn(3, 60) + x.then(1, 60, 0) > 0, true);
    }
}
