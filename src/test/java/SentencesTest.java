import java.io.IOException;
import java.nio.file.Files;
import java.nio.file.Path;
import java.util.ArrayList;
import java.util.Arrays;
import java.util.List;
import java.util.regex.Matcher;
import java.util.regex.Pattern;
import java.util.stream.Stream;

/** The sentences of the document that name no boundary, each quoted, in their order; the others have their own tests. */
public final class SentencesTest {
    private static final String A = "crate a 0 0 1 2 3 4 5 6;";
    private static final String MIDDLE = "yard 3 3;crate a 1 1 1 2 3 4 5 6;";
    /** Two flags, 0 and 1, between which a crate can only go right and left. */
    private static final String PAIR = "yard 2 2;shut 0 1;shut 1 1;";

    private SentencesTest() {
    }

    public static void main(String[] args) throws IOException {
        tells();
        laws();
        tipped();
        lots();
        paid();
        minutes();
        byHand();
        fewest();
        cheapest();
        never();
        game();
        tops();
        alike();
        looks();
        mirror();
        inMinutes();
        year();
        told();
        rows();
        counts();
        everySentenceIsQuoted();
        Check.end("SentencesTest");
    }

    private static void due(String text, int fault, int place) {
        TippedCrates x = new TippedCrates();
        Check.put(x, text);
        Check.due("read of " + text, x.read(), fault);
        Check.due("place in " + text, x.place(), place);
    }

    /** As it stands the text is right; cut off behind any of its tokens but the last, it is not. */
    private static void dueWhole(String text) {
        String[] tokens = text.split(" ");
        StringBuilder part = new StringBuilder();
        for (int i = 0; i < tokens.length; i++) {
            part.append(i == 0 ? "" : " ").append(tokens[i]);
            boolean whole = i == tokens.length - 1;
            due(part.toString(), whole ? 0 : 1, whole ? -1 : part.length());
        }
    }

    private static void tells() {
        Check.says("text: {TELL}.");
        due("", 0, -1);
        due(" \t\r\n", 0, -1);
        due("seed 1;seed 2;seed 3;", 0, -1);
        due(";", 1, 0);
        due("seed 1;;", 1, 7);
        Check.says("TELL: 'yard' INT INT ';' | 'shut' INT INT ';' | 'paint' INT INT INT ';' | 'crate' NAME INT INT INT"
                + " INT INT INT INT INT ';' | ('prints' | 'takes' | 'costs' | 'slips') LAW ';' | 'seed' INT ';'.");
        String[] texts = {"yard 3 2 ;", "shut 0 1 ;", "paint 0 1 9 ;", "crate a 0 1 2 3 4 5 6 7 ;", "prints = 1 ;",
            "takes = 1 ;", "costs = 1 ;", "slips = 1 ;", "seed 1 ;"};
        for (String text : texts) {
            dueWhole(text);
            // One more INT is one too many, where the ; is due.
            due(text.substring(0, text.length() - 1) + "4;", 1, text.length() - 1);
        }
        due("crate 1 0 1 2 3 4 5 6 7;", 1, 6);
        due("yard a 2;", 1, 5);
        due("a 3 2;", 1, 0);
        due("3 2;", 1, 0);
    }

    private static int cost(String law) {
        return Check.of(MIDDLE + "costs=" + law + ";").tells(0, 0, 1);
    }

    private static void laws() {
        Check.says("LAW: '=' {'if' E '<' E 'then' E 'else'} E.");
        dueWhole("costs = if 1 < 2 then 3 else if 4 < 5 then 6 else 7 ;");
        due("costs 1;", 1, 6);
        due("costs=if 1<2 then 3;", 1, 19);
        due("costs=if 1 then 3 else 4;", 1, 11);
        due("costs=1+if 1<2 then 3 else 4;", 1, 8);
        due("costs=if 1<2 then if 1<2 then 3 else 4 else 5;", 1, 18);
        Check.due("the first", cost("if 1<2 then 3 else if 1<2 then 4 else 5"), 3);
        Check.due("the second", cost("if 2<1 then 3 else if 1<2 then 4 else 5"), 4);
        Check.due("the last", cost("if 2<1 then 3 else if 2<2 then 4 else 5"), 5);
        Check.says("E: PART {('+' | '-') PART}.");
        dueWhole("costs = ( 1 + 2 - 3 ) ;");
        due("costs=-1;", 1, 6);
        due("costs=1+-1;", 1, 8);
        Check.due("20-3-4", cost("20-3-4"), 13);
        Check.due("20-3+4", cost("20-3+4"), 21);
        Check.says("PART: UNIT {('*' | '/') UNIT}.");
        dueWhole("costs = ( 1 * 2 / 3 ) ;");
        due("costs=*1;", 1, 6);
        due("costs=1**2;", 1, 8);
        Check.due("60/3/4", cost("60/3/4"), 5);
        Check.due("7*9/10", cost("7*9/10"), 6);
        Check.due("9/10*7", cost("9/10*7"), 0);
        Check.due("7-2*3+1", cost("7-2*3+1"), 2);
        Check.says("UNIT: INT | VAR | '(' E ')'.");
        Check.due("60/(3*4)", cost("60/(3*4)"), 5);
        Check.due("(7-2)*(3+1)", cost("(7-2)*(3+1)"), 20);
        due("costs=();", 1, 7);
        due("costs=(1;", 1, 8);
        due("costs=1);", 1, 7);
        due("costs=(1<2);", 1, 8);
        due("costs=a;", 1, 6);
        due("costs=1 2;", 1, 8);
        Check.says("VAR: 'left' | 'top' | 'flag' | 'over' | 'beneath' | 'tips' | 'minute' | 'which' | 'way'.");
        variables();
    }

    private static void variables() {
        String[] names = {"left", "top", "flag", "over", "beneath", "tips", "minute", "which", "way"};
        // Crate b, between shut flags, is asked in minute 3 for its way to flag 7, which can not be.
        int[] due = {1, 2, 9, 3, 4, 0, 3, 1, 1};
        for (int i = 0; i < names.length; i++) {
            TippedCrates x = Check.of("yard 3 3;paint 1 2 9;shut 0 1;shut 1 0;shut 2 1;shut 1 2;"
                    + "crate a 0 0 0 0 0 0 0 0;crate b 1 1 1 2 3 4 5 6;costs=" + names[i] + ";");
            Check.due("minutes of " + names[i], x.minutes(3), 3);
            Check.due(names[i], x.tells(1, 1, 1), due[i]);
        }
        TippedCrates x = Check.of(A + "costs=tips;");
        for (int tips = 0; tips < 9; tips++) {
            Check.due("tips", x.tells(0, 1, 1), tips);
            x.tip(0, tips % 2 * 2);
        }
        for (String name : new String[] {"right", "mark", "under", "tip", "minutes", "crate", "ways", "x"}) {
            due("costs=" + name + ";", 1, 6);
        }
    }

    private static void dueFaces(String what, TippedCrates x, int... faces) {
        for (int face = 0; face < 6; face++) {
            Check.due(what + ", face " + face, x.crate(0, face), faces[face]);
        }
    }

    private static void tipped() {
        Check.says("by 2 its left side comes beneath, what was beneath to the right, what was right on top, what was on"
                + " top to the left;");
        TippedCrates x = Check.of(MIDDLE);
        Check.due("left", x.tip(0, 2), 3);
        dueFaces("left", x, 6, 5, 3, 4, 1, 2);
        Check.says("by 1 its near side comes beneath, what was beneath to the far side, what was far on top, what was on"
                + " top to the near side (left and right stay);");
        x = Check.of(MIDDLE);
        Check.due("near", x.tip(0, 1), 7);
        dueFaces("near", x, 3, 4, 2, 1, 5, 6);
        Check.says("by 3 its far side comes beneath, what was beneath to the near side, what was near on top, what was on"
                + " top to the far side.");
        x = Check.of(MIDDLE);
        Check.due("far", x.tip(0, 3), 1);
        dueFaces("far", x, 4, 3, 1, 2, 5, 6);
    }

    private static void lots() {
        Check.says("LOT n of a SEED and a which: h is the SEED; for each of 215, which: h becomes (h and it, each bit of"
                + " which is in just one) times 1103515245 and 12345 more, then h and h moved 15 bits down (zeros come in),"
                + " likewise;");
        // Worked out by a program in another language.
        int[] ways = {3, 0, 1, 3, 0, 2, 3, 1, 1, 0, 1, 1};
        int[] steps = {1, 3, -1, -3};
        for (int seed = 0; seed < ways.length; seed++) {
            Check.due("LOT 4 of " + seed + " and 0", Lots.lot(4, seed, 0), ways[seed]);
            Check.due("by seed " + seed, Check.of(MIDDLE + "seed " + seed + ";").then(0, 1, 0), 4 + steps[ways[seed]]);
        }
        int[] slips = {72, 90, 81, 87, 14, 33};
        for (int minute = 0; minute < slips.length; minute++) {
            Check.due("LOT 100", Lots.slip(9999, minute, 2), slips[minute]);
        }
        Check.due("LOT 4", Lots.way(9999, 0, 2), 2);
        String lane = "yard 5 5;crate a 0 0 0 0 0 0 0 0;crate b 0 4 0 0 0 0 0 0;crate c 3 2 0 0 0 0 0 0;seed 9999;slips=";
        Check.due("slips 72", Check.of(lane + "72;").then(2, 1, 0), 12);
        Check.due("slips 73", Check.of(lane + "73;").then(2, 1, 0), 11);
    }

    private static void paid() {
        Check.says("It is TIPPED so: COSTS are paid;");
        TippedCrates x = Check.of(MIDDLE + "costs=10*way+tips;");
        int[] ways = {0, 1, 2, 3};
        int[] due = {0, 11, 33, 66};
        for (int i = 0; i < ways.length; i++) {
            x.tip(0, ways[i]);
            Check.due("paid behind " + (i + 1), x.count(4), due[i]);
        }
        Check.due("refused", x.tip(0, 4), -1);
        Check.due("nothing more", x.count(4), 66);
    }

    private static void minutes() {
        Check.says("A MINUTE: CRATE by CRATE, each by how it is then:");
        int followed = 0;
        for (int seed = 0; seed < 200; seed++) {
            if (Lots.way(seed, 0, 0) != 0 || Lots.way(seed, 0, 1) != 0) {
                continue;
            }
            followed++;
            // Ahead, crate 0 has gone when crate 1 goes; behind, it is in its own way still.
            TippedCrates x = Check.of("crate a 1 0 0 0 0 0 0 0;crate b 0 0 0 0 0 0 0 0;seed " + seed + ";");
            x.minutes(1);
            Check.due("flags with crates by " + seed, x.count(13), 6);
            x = Check.of("crate a 0 0 0 0 0 0 0 0;crate b 1 0 0 0 0 0 0 0;seed " + seed + ";");
            x.minutes(1);
            Check.due("flags with crates by " + seed, x.count(13), 5);
        }
        Check.due("seeds seen: " + followed, followed > 3, true);
        Check.says("It is the next minute.");
        TippedCrates x = Check.of(A + "costs=minute;");
        for (int minute = 0; minute < 70; minute++) {
            Check.due("minute", x.count(3), minute);
            Check.due("to laws", x.tells(0, 0, 1), minute);
            Check.due("minutes(1)", x.minutes(1), minute + 1);
        }
    }

    private static void byHand() {
        Check.says("By hand: a CRATE is TIPPED;");
        TippedCrates x = Check.of(A);
        Check.due("tip", x.tip(0, 0), 1);
        Check.due("things done", x.count(9), 1);
        Check.says("MINUTES go by.");
        Check.due("minutes", x.minutes(2), 2);
        Check.due("things done", x.count(9), 2);
        Check.due("undone", x.undo() && x.count(3) == 0 && x.crate(0, 6) == 1, true);
    }

    private static void fewest() {
        Check.says("FEWEST to a flag and a mark: the fewest tippings behind which it is on that flag with a face of that"
                + " mark on top;");
        TippedCrates x = Check.of("yard 5 5;" + A);
        int[] tops = {1, 5, 2, 6, 1};
        for (int flag = 0; flag < 5; flag++) {
            Check.due("to the right", x.fewest(0, flag, tops[flag], -1), flag);
        }
        Check.due("to flag 1 with a 1", x.fewest(0, 1, 1, -1), 3);
        int[] ways = {1, 0, 3};
        for (int i = 0; i < ways.length; i++) {
            Check.due("way " + i, x.fewest(0, 1, 1, i), ways[i]);
        }
        Check.due("back with another on top", x.fewest(0, 0, 3, -1) > 2, true);
    }

    private static void cheapest() {
        Check.says("CHEAPEST to a flag: the least COSTS of tippings behind which it is there, however it lies, added,");
        TippedCrates x = Check.of("yard 3 2;paint 1 0 5;" + A + "costs=if flag<1 then 1 else 9;");
        Check.due("round about", x.cheapest(0, 2), 4);
        Check.due("onto it", x.cheapest(0, 1), 9);
        Check.due("washed off", x.tip(0, 1) == 3 && x.paint(1, 0), true);
        Check.due("onto it by now", x.cheapest(0, 1), 2);
        x = Check.of("yard 3 2;" + A + "costs=beneath;");
        // Right: 6; near: 4, then right, far: 6 and 1.
        Check.due("by marks", x.cheapest(0, 1), 6);
        Check.due("near", x.cheapest(0, 3), 4);
        // 6 and 4 by right and near, 4 and 6 the other way.
        Check.due("across", x.cheapest(0, 4), 10);
    }

    private static void never() {
        Check.says("NEVER of a mark: flags on which it can not come to be with that mark on top.");
        TippedCrates x = Check.of(PAIR + "crate a 0 0 1 1 0 0 0 0;");
        Check.due("1", x.never(0, 1), 14);
        Check.due("0", x.never(0, 0), 13);
        Check.due("2", x.never(0, 2), 15);
        x = Check.of("yard 3 2;crate b 1 1 0 0 0 0 0 0;" + A);
        for (int mark = 1; mark <= 6; mark++) {
            Check.due("flag of the other", x.never(1, mark) >> 4 & 1, 1);
        }
    }

    private static void game() {
        Check.says("the first would have the mark that is on top in the end most, the other least: which; the WAY of the"
                + " first, of as good ones the lowest.");
        int[][] due = {{5, 3, 1, 5, 0}, {5, 5, 1, 5, 0}, {5, 9, 1, 9, 1}};
        for (int[] each : due) {
            TippedCrates x = Check.of("yard 2 2;crate a 0 0 1 2 " + each[1] + " 4 " + each[0] + " 6;");
            Check.due("by one", x.game(0, each[2], 0), each[3]);
            Check.due("its way", x.game(0, each[2], 1), each[4]);
        }
        // Right, then back or near, leaves 8 or 3 on top; near, then right or back, 5 or 8.
        TippedCrates x = Check.of("yard 2 2;crate a 0 0 8 2 3 4 5 6;");
        Check.due("by two", x.game(0, 2, 0), 5);
        Check.due("its way", x.game(0, 2, 1), 1);
        x = Check.of(PAIR + A);
        int[] tops = {1, 5};
        for (int n = 1; n <= 6; n++) {
            Check.due("to and fro", x.game(0, n, 0), tops[n % 2]);
            Check.due("its way", x.game(0, n, 1), 0);
        }
    }

    private static void tops() {
        Check.says("TOPS: marks that can be on top anywhere.");
        Check.due("two flags", Check.of(PAIR + A).tops(0), 1 << 1 | 1 << 5);
        // Round a corner only the three faces at it come on top.
        Check.due("four flags", Check.of("yard 2 2;" + A).tops(0), 1 << 1 | 1 << 3 | 1 << 5);
        Check.due("six flags", Check.of("yard 3 2;" + A).tops(0), 126);
        Check.due("one mark", Check.of(PAIR + "crate a 0 0 0 9 9 9 0 9;").tops(0), 1);
    }

    private static void alike() {
        Check.says("ALIKE of two CRATES: whether one can lie so that its marks are the other's as it lies.");
        TippedCrates x = Check.of("yard 5 5;" + A + "crate b 2 2 1 2 3 4 5 6;crate c 4 4 1 2 3 4 6 5;");
        int[] ways = {0, 1, 1, 2, 3, 0, 3, 1};
        for (int way : ways) {
            Check.due("alike", x.alike(0, 1) == 1 && x.alike(1, 0) == 1, true);
            Check.due("unlike", x.alike(0, 2) == 0 && x.alike(2, 0) == 0 && x.alike(1, 2) == 0, true);
            x.tip(1, way);
            x.tip(2, 2);
        }
        x = Check.of("prints=0;takes=1;paint 1 0 9;" + A + "crate b 2 2 1 2 3 4 5 6;");
        Check.due("alike at first", x.alike(0, 1), 1);
        Check.due("takes up 9", x.tip(0, 0), 1);
        Check.due("unlike then", x.alike(0, 1), 0);
    }

    private static int looksOf(String faces) {
        return Check.of("crate a 0 0 " + faces + ";").looks(0);
    }

    private static void looks() {
        Check.says("LOOKS: how many of the 24 ways it can lie are unlike by their marks.");
        Check.due("all unlike", looksOf("1 2 3 4 5 6"), 24);
        Check.due("two next to one another alike", looksOf("1 2 1 4 5 6"), 24);
        Check.due("two pairs that face one another", looksOf("1 1 2 2 3 4"), 12);
        Check.due("three pairs that face one another", looksOf("1 1 2 2 3 3"), 6);
        Check.due("two next to one another, the rest alike", looksOf("1 0 1 0 0 0"), 12);
        Check.due("three at a corner", looksOf("1 0 1 0 1 0"), 8);
        Check.due("one", looksOf("0 0 0 0 0 1"), 6);
        Check.due("two that face one another", looksOf("1 1 0 0 0 0"), 3);
        Check.due("none", looksOf("0 0 0 0 0 0"), 1);
    }

    private static int mirrorOf(String faces) {
        return Check.of("crate a 0 0 " + faces + ";").mirror(0);
    }

    private static void mirror() {
        Check.says("MIRROR: whether one of these is what it is now with left and right changed about.");
        Check.due("all unlike", mirrorOf("1 2 3 4 5 6"), 0);
        Check.due("left as right", mirrorOf("1 2 3 4 5 5"), 1);
        Check.due("top as beneath", mirrorOf("1 1 3 4 5 6"), 1);
        Check.due("far as near", mirrorOf("1 2 3 3 5 6"), 1);
        Check.due("top as far", mirrorOf("1 2 1 4 5 6"), 0);
        Check.due("top as far, beneath as near", mirrorOf("1 2 1 2 5 6"), 1);
        Check.due("top as far, beneath as left", mirrorOf("1 2 1 3 2 4"), 0);
    }

    private static void inMinutes() {
        Check.says("IN n MINUTES (0 .. 60): the flag of a CRATE, the mark on top of it; the mark of a flag; what was paid.");
        String text = "yard 4 4;shut 3 3;paint 0 3 8;" + A + "crate b 2 2 9 8 7 6 5 4;slips=35;takes=over-3;"
                + "prints=minute-20;costs=beneath+way;seed 77;";
        TippedCrates now = Check.of(text);
        now.tip(0, 0);
        for (int n = 0; n <= 60; n++) {
            TippedCrates later = Check.of(text);
            later.tip(0, 0);
            later.minutes(n);
            for (int crate = 0; crate < 2; crate++) {
                Check.due("flag in " + n, now.then(crate, n, 0), later.crate(crate, 6));
                Check.due("top in " + n, now.then(crate, n, 1), later.crate(crate, 0));
            }
            Check.due("mark in " + n, now.flagIn(n % 16, n), later.flag(n % 16, 0));
            Check.due("paid in " + n, now.paidIn(n), later.count(4));
        }
        Check.due("nothing happened", now.count(3), 0);
    }

    private static void year() {
        Check.says("YEAR; NONE: no such ones.");
        String text = "yard 3 4;" + A + "crate b 1 2 1 1 2 2 3 3;slips=50;takes=flag;seed ";
        TippedCrates x = Check.of(text + "100;");
        int[] due = new int[10];
        for (int s = 1; s <= 20; s++) {
            TippedCrates other = Check.of(text + (99 + s) + ";");
            due[other.then(1, 9, 1)]++;
            for (int mark = 0; mark <= 9; mark++) {
                Check.due("mark " + mark + " by " + s, x.year(1, mark, 9, s), due[mark]);
            }
        }
        int[][] none = {{2, 0, 9, 20}, {-1, 0, 9, 20}, {0, 10, 9, 20}, {0, -1, 9, 20}, {0, 0, 61, 20}, {0, 0, -1, 20},
            {0, 0, 9, 21}, {0, 0, 9, 0}};
        for (int[] each : none) {
            Check.due("no such ones", x.year(each[0], each[1], each[2], each[3]), -1);
        }
    }

    private static void told() {
        Check.says("TOLD: that a CRATE, being tipped unknown WAYS from now on, as in III,");
        TippedCrates x = Check.of("yard 3 2;" + A);
        Check.due("told", x.tell(1, 6, true), 0);
        Check.due("by right", x.rows(1, 0, 1, 1), 0);
        Check.due("tipped", x.tip(0, 0), 1);
        // Right 1, near 4, left 2 would be beneath from now on.
        Check.due("by none", x.rows(1, 0, 1, 0), 0);
        Check.due("told", x.tell(1, 2, false), 1);
        Check.due("undone", x.undo(), true);
        Check.due("by right again", x.rows(2, 0, 1, 1), 0);
        Check.due("still told", x.count(10), 2);
    }

    private static void rows() {
        Check.says("ROWS of l (1 .. 5) of a CRATE: rows of l WAYS, each of which can be, by which all that is KNOWN is so");
        TippedCrates x = Check.of("yard 3 3;crate a 1 1 1 2 3 4 5 6;");
        // From the middle 4 ways, from a side 3 (2 of them to corners), from a corner 2.
        int[] many = {4, 12, 32, 96, 256};
        for (int l = 1; l <= 5; l++) {
            Check.due("rows of " + l, x.rows(0, 0, l, 0), many[l - 1]);
        }
        x.tell(1, 6, false);
        x.tell(1, 4, false);
        x.tell(2, 2, true);
        Check.due("not right", x.rows(1, 0, 1, 0), 3);
        Check.due("nor near", x.rows(2, 0, 1, 0), 2);
        // Left or far, then back.
        Check.due("and a 2 behind the second", x.rows(3, 0, 2, 0), 2);
        Check.says(": how many FIT; the first: its WAYS as digits by 4, the first the highest.");
        Check.due("left, right", x.rows(3, 0, 2, 1), 2 * 4);
        Check.due("left", x.rows(2, 0, 1, 1), 2);
        x = Check.of(PAIR + A);
        int[] first = {0, 2, 8, 34, 136};
        for (int l = 1; l <= 5; l++) {
            Check.due("one", x.rows(0, 0, l, 0), 1);
            Check.due("right, left, right, ..", x.rows(0, 0, l, 1), first[l - 1]);
        }
    }

    private static void counts() {
        Check.says("0 WIDE, 1 HIGH, 2 CRATES, 3 the minute, 4 what was paid so far, 5 flags that are SHUT (bits),");
        TippedCrates x = Check.of("yard 5 3;shut 4 0;shut 0 2;shut 4 0;" + A + "crate b 2 1 7 6 5 4 3 2;costs=7;");
        int[] due = {5, 3, 2, 0, 0, 1 << 4 | 1 << 10};
        for (int what = 0; what < due.length; what++) {
            Check.due("count(" + what + ")", x.count(what), due[what]);
        }
        Check.says("13 flags where a CRATE is (bits),");
        Check.due("count(13)", x.count(13), 1 | 1 << 7);
        Check.says("16 marks on top of all CRATES, added.");
        Check.due("count(16)", x.count(16), 8);
        Check.due("tipped", x.tip(1, 0), 8);
        Check.due("count(16)", x.count(16), 4);
        Check.due("count(13)", x.count(13), 1 | 1 << 8);
        Check.due("count(4)", x.count(4), 7);
    }

    /** Only told, as a document written anew is no fault of the program: what words no test quotes. */
    private static void everySentenceIsQuoted() throws IOException {
        String terms = Check.documentAsOneLine().replaceAll(".*## Terms|## Not promised.*", "")
                .replaceAll("## Promise \\d+: [A-Za-z ]+`[^`]*`:|==== [IV]+\\.", "");
        char[] left = terms.toCharArray();
        for (String quote : quotes()) {
            for (int at = terms.indexOf(quote); at >= 0; at = terms.indexOf(quote, at + 1)) {
                Arrays.fill(left, at, at + quote.length(), '@');
            }
        }
        for (String rest : new String(left).split("@+")) {
            if (rest.matches(".*\\w.*")) {
                System.out.println("note: no test quotes: " + rest.trim());
            }
        }
    }

    private static List<String> quotes() throws IOException {
        List<Path> files;
        try (Stream<Path> found = Files.list(Path.of("src/test/java"))) {
            files = found.toList();
        }
        List<String> quotes = new ArrayList<>();
        Pattern words = Pattern.compile("\"((?:[^\"\\\\]|\\\\.)*)\"");
        for (Path file : files) {
            Matcher said = Pattern.compile("says\\(((?:\\s*\"(?:[^\"\\\\]|\\\\.)*\"\\s*\\+?)+)\\)")
                    .matcher(Files.readString(file));
            while (said.find()) {
                StringBuilder quote = new StringBuilder();
                Matcher parts = words.matcher(said.group(1));
                while (parts.find()) {
                    quote.append(parts.group(1));
                }
                quotes.add(quote.toString());
            }
        }
        return quotes;
    }
}
