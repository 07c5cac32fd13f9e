import java.util.Arrays;
import java.util.HashSet;
import java.util.Set;

/** Each sentence of Terms I and of promises 1 to 5 that names a boundary, with a test of its own. */
public final class TextEdgesTest {
    private static final String[] WORDS = {"yard", "shut", "paint", "crate", "prints", "takes", "costs", "slips",
        "seed", "if", "then", "else", "left", "top", "flag", "over", "beneath", "tips", "minute", "which", "way"};
    private static final String[] SIGNS = {";", "=", "+", "-", "*", "/", "<", "(", ")"};
    private static final String[] LAWS = {"prints", "takes", "costs", "slips"};
    private static final String TELLS = "yard shut paint crate prints takes costs slips seed";
    private static final String UNITS = "1 ( left top flag over beneath tips minute which way";
    private static final int BLANKS = 0x20202020;

    private TextEdgesTest() {
    }

    public static void main(String[] args) {
        bytesOfText();
        blanks();
        everyByte();
        names();
        ints();
        signs();
        grammar();
        yard();
        shut();
        paint();
        crates();
        laws();
        seed();
        placeOfFault();
        syntax();
        roomForTokens();
        roomForSorts();
        roomForIfs();
        roomForBrackets();
        onlyIfThereIsNone();
        twice();
        wrong();
        beyondYard();
        newObject();
        feed();
        back();
        readEmptiesTape();
        place();
        Check.end("TextEdgesTest");
    }

    private static String shown(String text) {
        return text.length() > 120 ? text.substring(0, 50) + " .. " + text.substring(text.length() - 60) : text;
    }

    private static TippedCrates read(String text, int fault, int place) {
        TippedCrates x = new TippedCrates();
        Check.put(x, text);
        Check.due("bytes of '" + shown(text) + "'", x.count(8), text.length());
        Check.due("read() of '" + shown(text) + "'", x.read(), fault);
        Check.due("place() of '" + shown(text) + "'", x.place(), place);
        return x;
    }

    private static TippedCrates good(String text) {
        return read(text, 0, -1);
    }

    private static String crate(String name, int x, int y) {
        return "crate " + name + " " + x + " " + y + " 1 2 3 4 5 6;";
    }

    private static void bytesOfText() {
        Check.says("A TEXT has 2,000 bytes at most.");
        Check.due("the last byte is read", good(" ".repeat(1991) + "yard 3 2;").count(0), 3);
        read(" ".repeat(1999) + "x", 1, 1999);
        read(" ".repeat(1996) + "yard", 1, 2000);
        read(" ".repeat(1994) + "yard 3", 1, 2000);
        read(" ".repeat(1995) + "seed9", 1, 2000);
        read(" ".repeat(1992) + "crate ab", 1, 2000);
        read("\n".repeat(2000), 0, -1);
        good("");
    }

    private static void blanks() {
        Check.says("TOKENS, the longest that can be, with blanks (9, 10, 13, 32) between or not:");
        for (char blank : new char[] {9, 10, 13, 32}) {
            String b = String.valueOf(blank);
            Check.due("blank " + (int) blank, good(b + "yard" + b + "3" + b + b + "2" + b + ";" + b).count(1), 2);
            good(b);
        }
        good("yard3 2;seed1;costs=if left<1then 2else 3;");
        read("yard32;", 1, 6);
        read("yards 3 2;", 1, 0);
        read("seed1 2;", 1, 6);
        read("costs=leftover;", 1, 6);
        read("costs=if1<2then3else4;", 0, -1);
        good("crate a0 0 1 2 3 4 5 6;");
        for (int no : new int[] {0, 1, 8, 11, 12, 14, 31, 33, 127, 128, 160, 255}) {
            read("yard 3 2;" + (char) no, 1, 9);
            read((char) no + "yard 3 2;", 1, 0);
        }
    }

    /** Each of the 256 bytes, where one alone is between two INTS, and ahead of a text. */
    private static void everyByte() {
        Check.says("A longer one, all else, is no TOKEN.");
        for (int each = 0; each < 256; each++) {
            char c = (char) each;
            boolean isBlank = c == 9 || c == 10 || c == 13 || c == 32;
            boolean isDigit = c >= '0' && c <= '9';
            read("yard 3" + c + "2;", isBlank ? 0 : 1, isBlank ? -1 : isDigit ? 8 : 6);
            read(c + "yard 3 2;", isBlank ? 0 : 1, isBlank ? -1 : 0);
            boolean joins = isDigit || "+-*/".indexOf(c) >= 0;
            read("costs=1" + c + "1;", joins ? 0 : 1, joins ? -1 : isBlank || c == ';' ? 8 : 7);
            boolean isLetter = c >= 'a' && c <= 'z';
            read("crate a" + c + " 0 0 1 2 3 4 5 6;", isLetter || isBlank ? 0 : 1,
                    isLetter || isBlank ? -1 : isDigit ? 23 : 7);
        }
    }

    private static void names() {
        Check.says("NAMES (letters a .. z, 8 at most, none of the words in quotes)");
        for (int letters = 1; letters <= 12; letters++) {
            String name = "zyxwvutsrqpo".substring(0, letters);
            read(crate(name, 0, 0), letters <= 8 ? 0 : 1, letters <= 8 ? -1 : 6);
        }
        good(crate("a", 0, 0));
        good(crate("z", 0, 0));
        good(crate("aaaaaaaa", 0, 0));
        good(crate("zzzzzzzz", 0, 0));
        read(crate("aaaaaaaaa", 0, 0), 1, 6);
        read(crate("beneathxy", 0, 0), 1, 6);
        read("yardyardy 3 2;", 1, 0);
        Set<String> words = new HashSet<>(Arrays.asList(WORDS));
        for (String word : WORDS) {
            read(crate(word, 0, 0), 1, 6);
            good(crate(word + "x", 0, 0));
            good(crate("x" + word, 0, 0));
            String shorter = word.substring(0, word.length() - 1);
            read(crate(shorter, 0, 0), words.contains(shorter) ? 1 : 0, words.contains(shorter) ? 6 : -1);
        }
    }

    private static void ints() {
        Check.says("INTS (1 to 4 digits)");
        String[] still = {"0", "9", "00", "10", "000", "999", "0000", "0001", "1000", "9999"};
        for (String one : still) {
            good("seed " + one + ";");
            good("costs=" + one + ";");
        }
        for (String one : new String[] {"00000", "00001", "10000", "99999", "123456", "00000000000000000000"}) {
            read("seed " + one + ";", 1, 5);
            read("costs=1+" + one + ";", 1, 8);
        }
        Check.due("0002 is 2", good("yard 0002 0005;").count(1), 5);
    }

    private static void signs() {
        Check.says("SIGNS ; = + - * / < ( ) .");
        good("costs=if(1+2-3*4/5)<6then 7else 8;");
        for (String no : new String[] {">", ",", ".", ":", "!", "%", "[", "]", "{", "}", "_", "\"", "'", "^", "&"}) {
            read("costs=1" + no + "1;", 1, 7);
            read("costs" + no + "1;", 1, 5);
            read(no, 1, 0);
        }
    }

    /** Of many beginnings of a text: every TOKEN that goes on with it does, every other is a fault at its place. */
    private static void grammar() {
        Check.says("1 SYNTAX: a TOKEN, or what is none, with which no text goes on.");
        String[][] rows = beginnings();
        for (String[] row : rows) {
            Set<String> goOn = new HashSet<>(Arrays.asList(row[1].split(" ")));
            for (String next : nexts()) {
                goesOn(row[0], next, goOn.contains(next), 0);
            }
            boolean isWhole = goOn.contains("yard");
            read(row[0], isWhole ? 0 : 1, isWhole ? -1 : row[0].length());
        }
    }

    private static Iterable<String> nexts() {
        Set<String> all = new HashSet<>(Arrays.asList(WORDS));
        all.addAll(Arrays.asList(SIGNS));
        all.addAll(Arrays.asList("1", "zz", "12345", "abcdefghi", "Z", "#"));
        return all;
    }

    /** Each beginning has what can follow it; "zz" stands for a NAME, "1" for an INT. */
    private static String[][] beginnings() {
        String[][] tells = {{"", TELLS}, {"yard", "1"}, {"yard 2", "1"}, {"yard 2 2", ";"}, {"yard 2 2 ;", TELLS},
            {"shut", "1"}, {"shut 1", "1"}, {"shut 1 1", ";"}, {"shut 1 1 ;", TELLS}, {"paint", "1"}, {"paint 1", "1"},
            {"paint 1 1", "1"}, {"paint 1 1 1", ";"}, {"paint 1 1 1 ;", TELLS}, {"crate", "zz"}, {"crate a", "1"},
            {"crate a 1", "1"}, {"crate a 1 1", "1"}, {"crate a 1 1 1", "1"}, {"crate a 1 1 1 1", "1"},
            {"crate a 1 1 1 1 1", "1"}, {"crate a 1 1 1 1 1 1", "1"}, {"crate a 1 1 1 1 1 1 1", "1"},
            {"crate a 1 1 1 1 1 1 1 1", ";"}, {"crate a 1 1 1 1 1 1 1 1 ;", TELLS}, {"seed", "1"}, {"seed 1", ";"},
            {"seed 1 ;", TELLS}};
        String[][] laws = {{"", "="}, {" =", "if " + UNITS}, {" = 1", "+ - * / ;"}, {" = left", "+ - * / ;"},
            {" = (", UNITS}, {" = ( 1", "+ - * / )"}, {" = ( 1 )", "+ - * / ;"}, {" = ( ( way )", "+ - * / )"},
            {" = 1 +", UNITS}, {" = 1 -", UNITS}, {" = 1 *", UNITS}, {" = 1 /", UNITS}, {" = if", UNITS},
            {" = 1 + 2", "+ - * / ;"}, {" = 1 * 2", "+ - * / ;"}, {" = if 1", "+ - * / <"}, {" = if ( 1", "+ - * / )"},
            {" = if ( 1 )", "+ - * / <"}, {" = if 1 <", UNITS}, {" = if 1 < 1", "+ - * / then"},
            {" = if 1 < ( 1", "+ - * / )"}, {" = if 1 < 1 then", UNITS}, {" = if 1 < 1 then 1", "+ - * / else"},
            {" = if 1 < 1 then ( 1 )", "+ - * / else"}, {" = if 1 < 1 then 1 else", "if " + UNITS},
            {" = if 1 < 1 then 1 else 1", "+ - * / ;"}, {" = if 1 < 1 then 1 else if", UNITS}, {" = 1 ;", TELLS}};
        String[][] all = Arrays.copyOf(tells, tells.length + LAWS.length * laws.length);
        int next = tells.length;
        for (String law : LAWS) {
            for (String[] row : laws) {
                all[next++] = new String[] {law + row[0], row[1]};
            }
        }
        return all;
    }

    /** With so many TOKENS ahead: a 401st that could go on is ROOM, one that could not is SYNTAX all the same. */
    private static void goesOn(String start, String next, boolean may, int ahead) {
        String text = pad(ahead) + start + " " + next;
        int at = text.length() - next.length();
        int tokens = ahead + (start.isEmpty() ? 0 : start.split(" ").length);
        boolean whole = may && next.equals(";");
        if (!may) {
            read(text, 1, at);
        } else if (tokens >= 400) {
            read(text, 2, at);
        } else {
            read(text, whole ? 0 : 1, whole ? -1 : text.length());
        }
    }

    /** A text of so many TOKENS (none, or six and more). */
    private static String pad(int tokens) {
        int threes = tokens % 4 == 0 ? 0 : 4 - tokens % 4;
        return "seed 1;".repeat(threes) + "yard 2 2;".repeat((tokens - 3 * threes) / 4);
    }

    private static void yard() {
        Check.says("YARD: how WIDE, how HIGH 2 .. 5 each (4, 4; the last one).");
        for (int wide = 0; wide < 8; wide++) {
            for (int high = 0; high < 8; high++) {
                boolean isWide = wide >= 2 && wide <= 5;
                boolean isHigh = high >= 2 && high <= 5;
                TippedCrates x = read("yard " + wide + " " + high + ";", isWide && isHigh ? 0 : 5,
                        !isWide ? 5 : !isHigh ? 7 : -1);
                Check.due("wide", x.count(0), isWide && isHigh ? wide : 4);
                Check.due("high", x.count(1), isWide && isHigh ? high : 4);
            }
        }
        read("yard 9999 2;", 5, 5);
        read("yard 2 9999;", 5, 7);
        TippedCrates x = good("seed 1;");
        Check.due("4 if not told", x.count(0) * 10 + x.count(1), 44);
        x = good("yard 5 2;yard 2 5;yard 3 2;");
        Check.due("the last one", x.count(0) * 10 + x.count(1), 32);
        read("yard 3 2;yard 6 2;yard 3 2;", 5, 14);
    }

    private static void shut() {
        Check.says("SHUT, 8 at most: flags (X, Y 0 .. 4).");
        Check.due("none", good("").count(5), 0);
        String eight = "";
        for (int i = 0; i < 8; i++) {
            eight += "shut " + i % 5 + " " + i / 5 + ";";
        }
        Check.due("eight", good("yard 5 5;" + eight).count(5), 0b11111111);
        read("yard 5 5;" + eight + "shut 4 4;", 2, 9 + 72);
        read("yard 5 5;" + eight + "shut 0 0;", 2, 9 + 72);
        for (int i = 0; i < 7; i++) {
            read("yard 5 5;shut " + i + " 0;", i < 5 ? 0 : 5, i < 5 ? -1 : 14);
            read("yard 5 5;shut 0 " + i + ";", i < 5 ? 0 : 5, i < 5 ? -1 : 16);
        }
        Check.due("the last flag", good("yard 5 5;shut 4 4;").count(5), 1 << 24);
        Check.due("one flag twice", good("shut 3 3;shut 3 3;").count(5), 1 << 15);
    }

    private static void paint() {
        Check.says("PAINT, 10 at most (X, Y 0 .. 4, a mark 0 .. 9): on that flag at first (0, if not told; the last "
                + "one of a flag).");
        String ten = "";
        for (int i = 0; i < 10; i++) {
            ten += "paint " + i % 5 + " " + i / 5 + " " + i + ";";
        }
        TippedCrates x = good("yard 5 5;" + ten);
        for (int i = 0; i < 25; i++) {
            Check.due("mark of flag " + i, x.flag(i, 0), i < 10 ? i : 0);
        }
        read("yard 5 5;" + ten + "paint 0 2 1;", 2, 9 + 120);
        read("yard 5 5;" + ten + "paint 0 0 1;", 2, 9 + 120);
        for (int i = 0; i < 7; i++) {
            read("yard 5 5;paint " + i + " 0 1;", i < 5 ? 0 : 5, i < 5 ? -1 : 15);
            read("yard 5 5;paint 0 " + i + " 1;", i < 5 ? 0 : 5, i < 5 ? -1 : 17);
        }
        for (int mark : new int[] {0, 1, 8, 9, 10, 11, 99, 9999}) {
            read("paint 0 0 " + mark + ";", mark < 10 ? 0 : 5, mark < 10 ? -1 : 10);
        }
        Check.due("the last one", good("paint 1 0 9;paint 1 0 4;").flag(1, 0), 4);
        Check.due("the last one, 0", good("paint 1 0 9;paint 1 0 0;").flag(1, 0), 0);
        Check.due("another flag's is no later one", good("paint 1 0 9;paint 0 1 4;").flag(1, 0), 9);
        Check.due("ten of one flag", good("paint 1 0 9;".repeat(9) + "paint 1 0 2;").flag(1, 0), 2);
    }

    private static void crates() {
        Check.says("CRATES, 3 at most (a NAME, X, Y 0 .. 4, marks 0 .. 9: on top, beneath, on the far, the near, the "
                + "left, the right side), numbered from 0 on as they stand.");
        String three = "crate zz 4 4 0 1 2 3 4 5;crate b 0 0 9 8 7 6 5 4;crate aa 4 0 3 1 4 1 5 9;";
        TippedCrates x = good("yard 5 5;" + three);
        int[][] due = {{0, 1, 2, 3, 4, 5, 24}, {9, 8, 7, 6, 5, 4, 0}, {3, 1, 4, 1, 5, 9, 4}};
        for (int i = 0; i < 21; i++) {
            Check.due("crate " + i / 7 + ", " + i % 7, x.crate(i / 7, i % 7), due[i / 7][i % 7]);
        }
        Check.due("three", x.count(2), 3);
        Check.due("none", good("").count(2), 0);
        read("yard 5 5;" + three + crate("d", 2, 2), 2, 9 + three.length());
        for (int i = 0; i < 7; i++) {
            read("yard 5 5;" + crate("a", i, 0), i < 5 ? 0 : 5, i < 5 ? -1 : 17);
            read("yard 5 5;" + crate("a", 0, i), i < 5 ? 0 : 5, i < 5 ? -1 : 19);
        }
        for (int face = 0; face < 6; face++) {
            for (int mark : new int[] {0, 9, 10, 9999}) {
                String marks = " 0".repeat(face) + " " + mark + " 0".repeat(5 - face);
                x = read("crate a 0 0" + marks + ";", mark < 10 ? 0 : 5, mark < 10 ? -1 : 12 + 2 * face);
                Check.due("its mark", x.crate(0, face), mark < 10 ? mark : -1);
            }
        }
    }

    private static int[] told(TippedCrates x) {
        return new int[] {x.tells(0, 0, 2), x.tells(0, 0, 3), x.tells(0, 0, 1), x.tells(0, 0, 4)};
    }

    private static void laws() {
        Check.says("LAWS: PRINTS (1), TAKES (0), COSTS (1), SLIPS (0), if not told; the last one.");
        String a = crate("a", 0, 0);
        int[] untold = {1, 0, 1, 0};
        int[] other = {0, 1, 7, 7};
        int[] values = {0, 7, 7, 7};
        for (int law = 0; law < 4; law++) {
            Check.due(LAWS[law] + " not told", told(good(a))[law], untold[law]);
            String one = LAWS[law] + "=" + values[law] + ";";
            int[] answers = told(good(a + one));
            for (int each = 0; each < 4; each++) {
                Check.due(LAWS[each] + " where " + LAWS[law] + " is told", answers[each],
                        each == law ? other[each] : untold[each]);
            }
            String last = LAWS[law] + "=" + untold[law] + ";";
            Check.due("the last " + LAWS[law], told(good(a + one + last))[law], untold[law]);
            Check.due("the last " + LAWS[law], told(good(a + last + one))[law], other[law]);
            Check.due("the last of three", told(good(one + last + a + one))[law], other[law]);
        }
    }

    private static void seed() {
        Check.says("SEED 0 .. 9999 (0): the last one.");
        String a = "yard 5 5;" + crate("a", 2, 2);
        for (int seed : new int[] {0, 1, 9, 4711, 9998, 9999}) {
            Check.due("by seed " + seed, good(a + "seed " + seed + ";").then(0, 1, 0), flagByLot(seed));
        }
        read("seed 10000;", 1, 5);
        TippedCrates untold = good(a);
        TippedCrates nought = good(a + "seed 0;");
        for (int n = 0; n <= 20; n++) {
            Check.due("0, if not told, in " + n, untold.then(0, n, 0), nought.then(0, n, 0));
        }
        Check.due("0, if not told", untold.then(0, 1, 0), flagByLot(0));
        int other = 1;
        for (int i = 0; i < 20 && flagByLot(other) == flagByLot(0); i++) {
            other++;
        }
        Check.due("the last one", good("seed 0;" + a + "seed " + other + ";").then(0, 1, 0), flagByLot(other));
        Check.due("the last one", good(a + "seed " + other + ";seed 0;").then(0, 1, 0), flagByLot(0));
    }

    /** From flag 12 of a yard of 5 by 5, by the first lot of a seed. */
    private static int flagByLot(int seed) {
        return 12 + new int[] {1, 5, -1, -5}[Lots.lot(4, seed, 0)];
    }

    private static void placeOfFault() {
        Check.says("FAULTS of a text, the first by its place (a byte; the text's end: its length), of one place the "
                + "least:");
        read("x y", 1, 0);
        read("yard x y", 1, 5);
        read("yard 2 2;yard 2;yard;", 1, 15);
        for (int blanks = 0; blanks < 40; blanks += 13) {
            read("seed" + "\n".repeat(blanks), 1, 4 + blanks);
            read("shut 4 4;" + "\t".repeat(blanks), 6, 9 + blanks);
        }
        read("shut 0 0;".repeat(9) + "x", 2, 72);
        read("shut 0 0;".repeat(8) + "x" + "shut 0 0;", 1, 72);
        // Of the 401st TOKEN's place: 1 is less than 2.
        read(pad(400) + "then", 1, pad(400).length());
        read(pad(400) + "seed", 2, pad(400).length());
        read(pad(400), 0, -1);
        // The text's end: a fault of form at it goes ahead of a YARD fault there.
        read("shut 4 4", 1, 8);
    }

    private static void syntax() {
        Check.says("a TOKEN, or what is none, with which no text goes on.");
        read("12345", 1, 0);
        read("yard 12345", 1, 5);
        read("crate abcdefghi", 1, 6);
        read("yard 3 #", 1, 7);
        read("yard 3 2", 1, 8);
        read("costs", 1, 5);
        read(";", 1, 0);
        read("yard 3 2;;", 1, 9);
        read("yard 3 2;yard", 1, 13);
    }

    private static void roomForTokens() {
        Check.says("2 ROOM: a 401st TOKEN;");
        for (int tokens : new int[] {398, 399, 400, 401, 402, 500, 800}) {
            String text = pad(tokens);
            read(text, tokens <= 400 ? 0 : 2, tokens <= 400 ? -1 : placeOfToken(text, 400));
        }
        // Each TOKEN that goes on with each beginning, as the 400th and as the 401st.
        for (String[] row : beginnings()) {
            int tokens = row[0].isEmpty() ? 0 : row[0].split(" ").length;
            Set<String> goOn = new HashSet<>(Arrays.asList(row[1].split(" ")));
            for (String next : nexts()) {
                goesOn(row[0], next, goOn.contains(next), 400 - tokens);
                goesOn(row[0], next, goOn.contains(next), 399 - tokens);
            }
        }
        String ones = "costs=" + "1+".repeat(198) + "1;";
        good(ones);
        TippedCrates x = new TippedCrates();
        for (int i = 0; i < 5; i++) {
            String text = crate("a", 0, 0) + crate("b", 1, 1) + "costs=" + "1+".repeat(50) + i + "-0".repeat(137) + ";";
            Check.put(x, text);
            Check.due("four hundred, again", x.read(), 0);
            Check.due("their sum", x.tells(0, 0, 1), 50 + i);
        }
        read(ones + "yard 2 2;", 2, ones.length());
        read("costs=" + "1+".repeat(199) + "1;", 2, 6 + 398);
        read("yard 9 9;" + pad(400), 2, 9 + placeOfToken(pad(400), 396));
        read(pad(400) + " 99", 1, pad(400).length() + 1);
        // What comes behind the 401st counts no more.
        read(pad(400) + "seed # ( abcdefghij", 2, pad(400).length());
        read(pad(380) + "#" + pad(40), 1, pad(380).length());
    }

    /** Where a TOKEN of a padding begins. */
    private static int placeOfToken(String text, int token) {
        int seen = 0;
        for (int i = 0; i < text.length(); i++) {
            boolean begins = text.charAt(i) != ' ' && (i == 0 || !Character.isLetterOrDigit(text.charAt(i))
                    || !Character.isLetterOrDigit(text.charAt(i - 1)));
            if (begins && seen++ == token) {
                return i;
            }
        }
        return text.length();
    }

    private static void roomForSorts() {
        Check.says("one more of a sort than told (at its first TOKEN);");
        String[] sorts = {"shut 0 1;", "paint 0 1 1;"};
        int[] most = {8, 10};
        for (int i = 0; i < 2; i++) {
            String all = sorts[i].repeat(most[i]);
            String word = sorts[i].split(" ")[0];
            good(all);
            read(all + " " + word, 2, all.length() + 1);
            read(all + word + " x", 2, all.length());
            read(all + "yard 3 3;" + sorts[i], 2, all.length() + 9);
            read(all + "yard " + word, 1, all.length() + 5);
            read(all + sorts[i] + "#", 2, all.length());
        }
        String three = crate("a", 0, 0) + crate("b", 1, 0) + crate("c", 2, 0);
        good(three);
        read(three + "\ncrate", 2, three.length() + 1);
        read(three + "crate a 9 9;", 2, three.length());
        read(three + "crate crate", 2, three.length());
        String alike = crate("a", 0, 0) + crate("a", 0, 0) + crate("a", 9, 0);
        read(alike + crate("d", 3, 0), 2, alike.length());
        good("shut 0 1;".repeat(8) + "paint 0 1 1;".repeat(10) + three);
        good("yard 3 3;".repeat(20) + "seed 1;".repeat(20) + "costs=1;".repeat(20));
    }

    private static void roomForIfs() {
        Check.says("a 5th if of a LAW (at it);");
        String one = "if 1<2 then 3 else ";
        for (String law : LAWS) {
            String four = law + "=" + one.repeat(4);
            good(four + "4;");
            read(four + one + "4;", 2, four.length());
            read(four + "if", 2, four.length());
            read(four + "\t if #", 2, four.length() + 2);
            good(four + "4;" + four + "4;");
            good(law + "=" + one + "1;" + four + "4;");
            read(four + "4 if", 1, four.length() + 2);
        }
        good("costs=1;".repeat(5) + "costs=" + one.repeat(4) + "5;takes=" + one.repeat(4) + "5;");
        TippedCrates x = good(crate("a", 0, 0) + "costs=if 1<0 then 1 else if 1<0 then 2 else if 1<0 then 3 else "
                + "if 0<1 then 4 else 5;");
        Check.due("the 4th if counts", x.tells(0, 0, 1), 4);
    }

    private static void roomForBrackets() {
        Check.says("a 7th ( within one another (at it).");
        String deep = "((((((1))))))";
        String[] around = {"costs=%s;", "takes=2+%s*3;", "costs=if %s<1 then 2 else 3;", "costs=if 1<%s then 2 else 3;",
            "slips=if 1<2 then %s else 3;", "prints=if 1<2 then 3 else %s;", "costs=%1$s+%1$s-%1$s*%1$s/%1$s;"};
        for (String law : around) {
            good(String.format(law, deep));
            int at = law.indexOf('%');
            read(String.format(law, "(" + deep + ")"), 2, at + 6);
            read(law.substring(0, at) + "(((((((", 2, at + 6);
            read(law.substring(0, at) + "( ( ( ( ( ( (", 2, at + 12);
            read(law.substring(0, at) + "((((((1(", 1, at + 7);
            read(law.substring(0, at) + "(((((()", 1, at + 6);
        }
        good("costs=(1)+(1)+(1)+(1)+(1)+(1)+(1)+(1);");
        good("costs=(((((1)+(1))+(1))+(1))+((1)))*(((((1)))));");
        read("costs=(1+(1+(1+(1+(1+(1+(1)))))));", 2, 6 + 18);
        String nest = "1+2*(1+2*(1+2*(1+2*(1+2*(1+2*(";
        TippedCrates x = good(crate("a", 0, 0) + "costs=if " + nest + "3))))))<" + nest + "4)))))) then "
                + nest.replace('2', '1') + "9)))))) else 3;");
        Check.due("six deep on either side", x.tells(0, 0, 1), 15);
    }

    private static void onlyIfThereIsNone() {
        Check.says("If there is none, likewise: 3 TWICE: a NAME told already. 5 WRONG (at the INT): a number not as "
                + "told above. 6 YARD (at the text's end):");
        String twice = crate("a", 0, 0) + crate("a", 1, 0);
        int name = crate("a", 0, 0).length() + 6;
        read(twice, 3, name);
        read(twice + "yard 6 2;", 3, name);
        read("yard 6 2;" + twice, 5, 5);
        read(twice + "#", 1, twice.length());
        read(twice + "seed", 1, twice.length() + 4);
        read("yard 6 2;" + "shut 0 0;".repeat(9), 2, 81);
        read("yard 6 2", 1, 8);
        read("shut 4 4;yard 4 6;", 5, 16);
        read("shut 4 4;" + twice, 3, 9 + name);
        read("shut 4 4;yard 4 4;", 6, 18);
        read("crate a 0 0 1 2 3 4 5 6;crate a 10 0 1 2 3 4 5 6;", 3, 30);
        read("crate a 10 0 1 2 3 4 5 6;crate a 0 0 1 2 3 4 5 6;", 5, 8);
        read("yard 6 7;", 5, 5);
        read("yard 2 7;yard 6 2;", 5, 7);
    }

    private static void twice() {
        Check.says("3 TWICE: a NAME told already.");
        int one = crate("a", 0, 0).length();
        read(crate("a", 0, 0) + crate("b", 1, 0) + crate("a", 2, 0), 3, 2 * one + 6);
        read(crate("a", 0, 0) + crate("b", 1, 0) + crate("b", 2, 0), 3, 2 * one + 6);
        read(crate("a", 0, 0) + crate("a", 1, 0) + crate("a", 2, 0), 3, one + 6);
        read(crate("a", 0, 0) + crate("a", 0, 0), 3, one + 6);
        read("crate abcdefgh 0 0 1 2 3 4 5 6;crate\n\nabcdefgh 1 0 1 2 3 4 5 6;", 3, 31 + 7);
        good(crate("abcdefgh", 0, 0) + crate("abcdefgi", 1, 0) + crate("bbcdefgh", 2, 0));
        good(crate("a", 0, 0) + crate("aa", 1, 0) + crate("aaa", 2, 0));
        good(crate("az", 0, 0) + crate("ba", 1, 0) + crate("z", 2, 0));
        TippedCrates x = new TippedCrates();
        for (int i = 0; i < 3; i++) {
            Check.put(x, crate("a", 0, 0) + crate("b", 1, 0) + crate("c", 2, 0));
            Check.due("told by another text", x.read(), 0);
            Check.put(x, crate("c", 0, 0) + crate("a", 1, 0));
            Check.due("told by another text", x.read(), 0);
            Check.put(x, crate("a", 0, 0) + crate("a", 1, 0));
            Check.due("told by this one", x.read(), 3);
        }
    }

    private static void wrong() {
        Check.says("5 WRONG (at the INT): a number not as told above.");
        String[] texts = {"yard %s 2;", "yard 2 %s;", "shut %s 0;", "shut 0 %s;", "paint %s 0 0;", "paint 0 %s 0;",
            "paint 0 0 %s;", "crate a %s 0 0 0 0 0 0 0;", "crate a 0 %s 0 0 0 0 0 0;"};
        int[] above = {6, 6, 5, 5, 5, 5, 10, 5, 5};
        for (int i = 0; i < texts.length; i++) {
            int at = texts[i].indexOf('%');
            read("yard 5 5;" + String.format(texts[i], above[i]), 5, 9 + at);
            read("yard 5 5;" + String.format(texts[i], "9999"), 5, 9 + at);
            read("yard 5 5;" + String.format(texts[i], " \t" + above[i]), 5, 9 + at + 2);
            read("yard 5 5;" + String.format(texts[i], "000" + above[i]), above[i] < 10 ? 5 : 1, 9 + at);
            good("yard 5 5;" + String.format(texts[i], above[i] - 1));
            good("yard 5 5;" + String.format(texts[i], i < 2 ? 2 : 0));
        }
        read("yard 1 2;", 5, 5);
        read("yard 2 1;", 5, 7);
        read("yard 0 2;", 5, 5);
        good("costs=9999;prints=0;seed 0;seed 9999;");
        read("shut 5 5;", 5, 5);
    }

    private static void beyondYard() {
        Check.says("6 YARD (at the text's end): a SHUT flag, a PAINT, a CRATE beyond the YARD, a CRATE on a SHUT flag, "
                + "two CRATES on one.");
        for (int wide = 2; wide <= 5; wide++) {
            for (int high = 2; high <= 5; high++) {
                String yard = "yard " + wide + " " + high + ";";
                for (String thing : new String[] {"shut %d %d;", "paint %d %d 1;", "crate a %d %d 1 2 3 4 5 6;"}) {
                    good(yard + String.format(thing, wide - 1, high - 1));
                    good(String.format(thing, wide - 1, high - 1) + yard);
                    beyond(yard, String.format(thing, wide, high - 1), wide < 5);
                    beyond(yard, String.format(thing, wide - 1, high), high < 5);
                }
            }
        }
        read("shut 1 1;" + crate("a", 1, 1), 6, 9 + 24);
        read(crate("a", 1, 1) + "shut 1 1;", 6, 9 + 24);
        read(crate("a", 0, 0) + crate("b", 0, 0), 6, 48);
        read(crate("a", 1, 0) + crate("b", 0, 0) + crate("c", 1, 0), 6, 72);
        good("paint 1 1 4;shut 1 1;");
        good("paint 1 1 4;" + crate("a", 1, 1));
        good("yard 2 2;shut 1 1;" + crate("a", 0, 0) + crate("b", 1, 0) + crate("c", 0, 1));
        good(crate("a", 0, 1) + crate("b", 1, 0) + "shut 0 0;shut 1 1;");
        for (int one = 0; one < 10; one++) {
            String shuts = "";
            String paints = "";
            String crates = "";
            for (int i = 0; i < 10; i++) {
                shuts += i > 7 ? "" : "shut " + (i == one ? "4 0;" : i % 4 + " 1;");
                paints += "paint " + (i == one ? "0 4 1;" : i % 4 + " 2 1;");
                crates += i > 2 ? "" : crate("abc".substring(i, i + 1), i == one ? 4 : i, 3);
            }
            read(shuts, one < 8 ? 6 : 0, one < 8 ? 72 : -1);
            read(paints, 6, 120);
            read(crates, one < 3 ? 6 : 0, one < 3 ? 72 : -1);
        }
        Check.due("the default yard is kept to", good(crate("a", 3, 3)).crate(0, 6), 15);
        read(crate("a", 4, 3), 6, 24);
        read(crate("a", 3, 4), 6, 24);
    }

    private static void beyond(String yard, String thing, boolean isNumber) {
        int wrongAt = thing.indexOf('5');
        read(yard + thing, isNumber ? 6 : 5, 9 + (isNumber ? thing.length() : wrongAt));
        read(yard + thing + " \n", isNumber ? 6 : 5, 9 + (isNumber ? thing.length() + 2 : wrongAt));
        read(thing + yard, isNumber ? 6 : 5, isNumber ? 9 + thing.length() : wrongAt);
    }

    private static void newObject() {
        Check.says("A YARD of 4 by 4, no CRATES.");
        TippedCrates x = new TippedCrates();
        Check.due("wide", x.count(0), 4);
        Check.due("high", x.count(1), 4);
        Check.due("crates", x.count(2), 0);
        Check.due("the last flag", x.flag(15, 0), 0);
        Check.due("no more flags", x.flag(16, 0), -1);
        Check.due("the tape is empty", x.count(8), 0);
        Check.due("no fault", x.place(), -1);
        Check.due("nothing to undo", x.undo(), false);
        Check.due("nothing told", x.forget(), 0);
        for (int slot = 0; slot < 3; slot++) {
            Check.due("nothing held", x.restore(slot), false);
        }
        for (int what = 2; what < 17; what++) {
            Check.due("count(" + what + ")", x.count(what), 0);
        }
        Check.due("an empty text is read", x.read(), 0);
        Check.due("nothing new", x.count(0) * 10 + x.count(1), 44);
    }

    private static void feed() {
        Check.says("Twenty bytes, the highest of a first, come behind the tape: how many it has. NONE, and nothing "
                + "comes, if it would have more than 2,000.");
        TippedCrates x = new TippedCrates();
        // "yard 3 2;seed 7;    ", each int with its highest byte first.
        Check.due("twenty", x.feed(0x79617264, 0x20332032, 0x3b736565, 0x6420373b, 0x20202020), 20);
        Check.due("bytes behind it", x.feed(BLANKS, BLANKS, BLANKS, BLANKS, 0x20202078), 40);
        Check.due("the last byte is the 40th", x.read(), 1);
        Check.due("its place", x.place(), 39);
        x.feed(-1, BLANKS, BLANKS, BLANKS, BLANKS);
        Check.due("bytes above 127", x.read() * 100 + x.place(), 100);
        Check.due("from the start again", x.feed(0x79617264, 0x20332032, 0x3b202020, BLANKS, BLANKS), 20);
        for (int i = 2; i <= 100; i++) {
            Check.due("feed", x.feed(BLANKS, BLANKS, BLANKS, BLANKS, BLANKS), 20 * i);
        }
        Check.due("2,020 would be too many", x.feed(0x23232323, 0, 0, 0, 0), -1);
        Check.due("nothing came", x.count(8), 2000);
        Check.due("nothing of it is read", x.read(), 0);
        Check.due("what was there is", x.count(0), 3);
        for (int gone = 1; gone <= 20; gone++) {
            Check.put(x, " ".repeat(2000));
            x.back(gone);
            int answer = x.feed(BLANKS, BLANKS, BLANKS, BLANKS, BLANKS);
            Check.due("feed onto " + (2000 - gone), answer, gone < 20 ? -1 : 2000);
            Check.due("bytes then", x.count(8), gone < 20 ? 2000 - gone : 2000);
            x = new TippedCrates();
        }
    }

    private static void back() {
        Check.says("The last n bytes of the tape go: how many it has. NONE, and nothing goes, if it has not so many, "
                + "or n is below 0.");
        TippedCrates x = new TippedCrates();
        Check.due("0 of none", x.back(0), 0);
        Check.due("1 of none", x.back(1), -1);
        Check.due("-1 of none", x.back(-1), -1);
        Check.put(x, "yard 3 2;seed 7;#");
        int[] none = {-1, -2, 18, 19, 2000, 2001, Integer.MIN_VALUE, Integer.MAX_VALUE};
        for (int n : none) {
            Check.due("back(" + n + ")", x.back(n), -1);
            Check.due("nothing goes", x.count(8), 17);
        }
        Check.due("0 is so many", x.back(0), 17);
        Check.due("the last one goes", x.back(1), 16);
        Check.due("the others are read", x.read(), 0);
        Check.due("the others are read", x.count(0), 3);
        Check.put(x, "yard 5 5;");
        Check.due("all of them", x.back(9), 0);
        Check.due("no more", x.back(1), -1);
        Check.put(x, "yard 2 5;");
        Check.due("what went is gone", x.read() * 100 + x.count(0) * 10 + x.count(1), 25);
        // Bytes that went are no part of a TOKEN that ends with the tape.
        String[] rests = {"seed 1|234;", "seed 1|;", "crate ab|cdefghi", "yard 2| 2;", "yard| 2 2;", "seed |1;"};
        for (String rest : rests) {
            int stays = rest.indexOf('|');
            Check.put(x, rest.replace("|", ""));
            x.back(rest.length() - 1 - stays);
            Check.due("what stays of " + rest, x.read(), 1);
            Check.due("the end of what stays", x.place(), stays);
        }
        Check.put(x, " ".repeat(2000));
        Check.due("2,001 of 2,000", x.back(2001), -1);
        Check.due("2,000 of 2,000", x.back(2000), 0);
    }

    private static void readEmptiesTape() {
        Check.says("The tape, which is empty then, is read: 0, or the number of its FAULT.");
        String[] texts = {"", " ", "yard 3 2;", "#", "shut 0 0;".repeat(9), crate("a", 0, 0) + crate("a", 1, 0),
            "yard 1 1;", "shut 4 4;"};
        int[] faults = {0, 0, 0, 1, 2, 3, 5, 6};
        TippedCrates x = new TippedCrates();
        for (int i = 0; i < texts.length; i++) {
            Check.put(x, texts[i]);
            Check.due("read of " + texts[i], x.read(), faults[i]);
            Check.due("bytes then", x.count(8), 0);
            Check.due("none to take back", x.back(1), -1);
        }
        Check.due("an empty tape is a text", x.read(), 0);
        Check.due("place", x.place(), -1);
    }

    private static void place() {
        Check.says("The byte of the latest read()'s FAULT; NONE without.");
        TippedCrates x = new TippedCrates();
        Check.due("none was read", x.place(), -1);
        Check.put(x, "#");
        Check.due("not read yet", x.place(), -1);
        x.read();
        Check.due("byte 0", x.place(), 0);
        Check.put(x, " ".repeat(1999) + "#");
        Check.due("the latest read()'s", x.place(), 0);
        x.read();
        Check.due("byte 1999", x.place(), 1999);
        Check.put(x, " ".repeat(1996) + "yard");
        x.read();
        Check.due("its end", x.place(), 2000);
        x.minutes(1);
        x.hold(0);
        x.restore(0);
        x.paint(1, 1);
        x.undo();
        x.feed(0, 0, 0, 0, 0);
        x.back(20);
        Check.due("whatever is done", x.place(), 2000);
        x.read();
        Check.due("without", x.place(), -1);
    }
}
