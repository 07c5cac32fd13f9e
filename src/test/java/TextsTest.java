/** Promises 1 to 5: the tape, texts and their faults. */
public final class TextsTest {
    private static final String CRATE = " 0 0 1 2 3 4 5 6;";

    private TextsTest() {
    }

    public static void main(String[] args) {
        newObject();
        tape();
        tokens();
        grammar();
        room();
        meaning();
        whichFaultFirst();
        faultChangesNothing();
        goodTextIsInPlace();
        manyTexts();
        Check.end("TextsTest");
    }

    private static void read(String text, int fault, int place) {
        TippedCrates x = new TippedCrates();
        Check.put(x, text);
        Check.due("read() of '" + text + "'", x.read(), fault);
        Check.due("place() of '" + text + "'", x.place(), place);
        Check.due("the tape behind read() of '" + text + "'", x.count(8), 0);
    }

    private static void good(String text) {
        read(text, 0, -1);
    }

    private static void newObject() {
        TippedCrates x = new TippedCrates();
        int[] counts = {4, 4, 0, 0, 0, 0, 0, 0, 0, 0, 0, 0, 0, 0, 0, 0, 0};
        for (int what = 0; what < counts.length; what++) {
            Check.due("new: count(" + what + ")", x.count(what), counts[what]);
        }
        for (int flag = 0; flag < 16; flag++) {
            Check.due("new: mark", x.flag(flag, 0), 0);
            Check.due("new: shut", x.flag(flag, 1), 0);
            Check.due("new: crate there", x.flag(flag, 2), -2);
        }
        Check.due("new: flag(16, 0)", x.flag(16, 0), -1);
        Check.due("new: crate(0, 6)", x.crate(0, 6), -1);
        Check.due("new: place()", x.place(), -1);
        Check.due("new: undo()", x.undo(), false);
        Check.due("new: restore(0)", x.restore(0), false);
    }

    private static void tape() {
        TippedCrates x = new TippedCrates();
        Check.due("back(0) of none", x.back(0), 0);
        Check.due("back(1) of none", x.back(1), -1);
        for (int i = 1; i <= 100; i++) {
            Check.due("feed " + i, x.feed(0x20202020, 0x20202020, 0x20202020, 0x20202020, 0x20202020), 20 * i);
        }
        Check.due("feed 101", x.feed(0, 0, 0, 0, 0), -1);
        Check.due("tape", x.count(8), 2000);
        Check.due("back(-1)", x.back(-1), -1);
        Check.due("back(least)", x.back(Integer.MIN_VALUE), -1);
        Check.due("back(2001)", x.back(2001), -1);
        Check.due("back(19)", x.back(19), 1981);
        Check.due("feed onto 1981", x.feed(0, 0, 0, 0, 0), -1);
        Check.due("back(1)", x.back(1), 1980);
        Check.due("feed onto 1980", x.feed(0x20202020, 0x20202020, 0x20202020, 0x20202020, 0x20202020), 2000);
        Check.due("read of 2000 blanks", x.read(), 0);
        Check.due("tape behind", x.count(8), 0);
        Check.due("feed", x.feed(0x79617264, 0x20332035, 0x3b414243, 0, -1), 20);
        Check.due("back to behind ;", x.back(11), 9);
        Check.due("read", x.read(), 0);
        Check.due("wide, highest byte first", x.count(0), 3);
        Check.due("high, highest byte first", x.count(1), 5);
        Check.due("feed", x.feed(1, 2, 3, 4, 5), 20);
        Check.due("back of all", x.back(20), 0);
        Check.put(x, "yard");
        Check.due("count(8)", x.count(8), 4);
        Check.put(x, " 2 3;");
        Check.due("count(8) comes behind", x.count(8), 9);
        Check.due("read of both", x.read(), 0);
        Check.due("wide", x.count(0), 2);
    }

    private static void tokens() {
        good("");
        good(" \t\r\n ");
        good("yard\t3\r2\n;");
        good("yard3 2;");
        good("yard 0003 0002;");
        good("yard 3 2 ; yard 5 5;seed1;");
        good("crate abcdefgh" + CRATE);
        good("crate lefts" + CRATE);
        good("crate ifs" + CRATE);
        good("crate a0 0 1 2 3 4 5 6;");
        good("costs=1+left*(2-top)/flag;");
        read("yard 00003 2;", 1, 5);
        read("yard 3 20000;", 1, 7);
        read("yard 32;", 1, 7);
        read("crate abcdefghi" + CRATE, 1, 6);
        read("Yard 3 2;", 1, 0);
        read("yArd 3 2;", 1, 0);
        read("  yards 3 2;", 1, 2);
        read("yard 3.2;", 1, 6);
        read("yard 3,2;", 1, 6);
        read("yard 3\0002;", 1, 6);
        read("yard 3\0132;", 1, 6);
        read("yard 3\u00ff2;", 1, 6);
        read("yard 3 2;\u00e1", 1, 9);
        read("crate aB" + CRATE, 1, 7);
    }

    private static void grammar() {
        read("yard", 1, 4);
        read("yard 3", 1, 6);
        read("yard 3 ", 1, 7);
        read("yard 3 2", 1, 8);
        read("yard 3 2;;", 1, 9);
        read("yard 3 2 4;", 1, 9);
        read("yard x 2;", 1, 5);
        read("3;", 1, 0);
        read("a;", 1, 0);
        read("left;", 1, 0);
        read("shut 1;", 1, 6);
        read("shut 1 1 1;", 1, 9);
        read("paint 1 1;", 1, 9);
        read("paint 1 1 1 1;", 1, 12);
        read("crate 0 0 1 2 3 4 5 6;", 1, 6);
        read("crate a 0 0 1 2 3 4 5;", 1, 21);
        read("crate a 0 0 1 2 3 4 5 6 7;", 1, 24);
        for (String word : new String[] {"yard", "shut", "paint", "crate", "prints", "takes", "costs", "slips", "seed",
            "if", "then", "else", "left", "top", "flag", "over", "beneath", "tips", "minute", "which", "way"}) {
            read("crate " + word + CRATE, 1, 6);
        }
        read("seed;", 1, 4);
        read("seed 1 2;", 1, 7);
        read("costs 1;", 1, 6);
        read("costs = ;", 1, 8);
        read("costs = 1 2;", 1, 10);
        read("costs = a;", 1, 8);
        read("costs = -1;", 1, 8);
        read("costs = 1 + ;", 1, 12);
        read("costs = 1 * / 2;", 1, 12);
        read("costs = (1;", 1, 10);
        read("costs = 1);", 1, 9);
        read("costs = ();", 1, 9);
        read("costs = 1 < 2;", 1, 10);
        read("costs = (1 < 2);", 1, 11);
        read("costs = if 1 then 2 else 3;", 1, 13);
        read("costs = if 1 < 2 < 3 then 2 else 3;", 1, 17);
        read("costs = if 1 < 2 then 3;", 1, 23);
        read("costs = if 1 < 2 then if 1 < 2 then 3 else 4 else 5;", 1, 22);
        read("costs = 1 + if 1 < 2 then 3 else 4;", 1, 12);
        read("costs = 1 else 2;", 1, 10);
        good("costs = if 1 < 2 then 3 else if 4 < 5 then 6 else 7;");
        good("prints = left; takes = top; costs = flag; slips = over + beneath + tips + minute + which + way;");
    }

    private static void room() {
        good("shut 0 0;".repeat(8));
        read("shut 0 0;".repeat(9), 2, 72);
        good("paint 0 0 1;".repeat(10));
        read("paint 0 0 1;".repeat(11), 2, 120);
        String three = "crate a 0 0 1 2 3 4 5 6;crate b 1 0 1 2 3 4 5 6;crate c 2 0 1 2 3 4 5 6;";
        good(three);
        read(three + " crate d 3 0 1 2 3 4 5 6;", 2, three.length() + 1);
        read(three + "crate", 2, three.length());
        String law = "slips=" + "if 1<2 then 3 else ".repeat(4);
        good(law + "4;");
        read(law + "if 1<2 then 3 else 4;", 2, law.length());
        read("slips=" + "if 1<2 then 3 else ".repeat(5) + "4;", 2, law.length());
        good("takes=" + "if 1<2 then 3 else ".repeat(4) + "0;" + law + "4;");
        good("costs=((((((1))))));");
        read("costs=(((((((1)))))));", 2, 12);
        good("costs=((((((1))))))*((((((1))))))+(1)+(1)+(1)+(1)+(1)+(1)+(1);");
        read("costs=if 1<(1+(1+(1+(1+(1+(1+(1)))))))then 1 else 1;", 2, 29);
        String deep = "((((((1))))))";
        good("costs=if " + deep + "<" + deep + " then " + deep + " else " + deep + ";");
        read("costs=if (" + deep + ")<1 then 1 else 1;", 2, 15);
        read("costs=if 1<1 then (" + deep + ") else 1;", 2, 24);
        read("costs=if 1<1 then 1 else (" + deep + ");", 2, 31);
        String all = "yard 3 2;".repeat(100);
        good(all);
        good(all + " ");
        read(all + "seed 1;", 2, 900);
        read(all + " seed 1;", 2, 901);
        read(all + "x", 1, 900);
        read(all + "#", 1, 900);
        read(all + "12345", 1, 900);
        String most = "yard 3 2;".repeat(99) + "seed 1;";
        read(most + "seed", 1, most.length() + 4);
        read(most + "seed 7;", 2, most.length() + 5);
        read(most + "seed x;", 1, most.length() + 5);
    }

    private static void meaning() {
        String a = "crate a" + CRATE;
        read(a + "crate a 1 0 1 2 3 4 5 6;", 3, a.length() + 6);
        read(a + "crate b 1 0 1 2 3 4 5 6;crate  b 2 0 1 2 3 4 5 6;", 3, 2 * a.length() + 7);
        good("crate ab 0 0 1 2 3 4 5 6;crate a 1 0 1 2 3 4 5 6;crate b 2 0 1 2 3 4 5 6;");
        read("yard 1 2;", 5, 5);
        read("yard 6 2;", 5, 5);
        read("yard 2 1;", 5, 7);
        read("yard 2 6;", 5, 7);
        read("yard 2 6;yard 2 2;", 5, 7);
        good("yard 2 5;yard 5 2;");
        read("yard 5 5;shut 5 0;", 5, 14);
        read("yard 5 5;shut 0 5;", 5, 16);
        good("yard 5 5;shut 4 4;");
        read("yard 5 5;paint 5 0 0;", 5, 15);
        read("yard 5 5;paint 0 5 0;", 5, 17);
        read("yard 5 5;paint 0 0 10;", 5, 19);
        good("yard 5 5;paint 4 4 9;");
        read("yard 5 5;crate a 5 0 0 0 0 0 0 0;", 5, 17);
        read("yard 5 5;crate a 0 5 0 0 0 0 0 0;", 5, 19);
        for (int face = 0; face < 6; face++) {
            StringBuilder text = new StringBuilder("crate a 0 0");
            for (int i = 0; i < 6; i++) {
                text.append(i == face ? " 10" : " 9");
            }
            read(text + ";", 5, 12 + 2 * face);
        }
        good("seed 9999;costs=9999;");
        yardFaults();
    }

    private static void yardFaults() {
        for (String thing : new String[] {"shut 2 0;", "shut 0 2;", "paint 2 0 1;", "paint 0 2 1;",
            "crate a 2 0 1 1 1 1 1 1;", "crate a 0 2 1 1 1 1 1 1;"}) {
            read("yard 2 2;" + thing, 6, 9 + thing.length());
            read("yard 2 2;" + thing + " ", 6, 10 + thing.length());
            read(thing + "yard 2 2;", 6, 9 + thing.length());
            good("yard 2 2;" + thing + "yard 3 3;");
        }
        read("shut 4 0;", 6, 9);
        read("shut 4 0;shut 0 0;", 6, 18);
        read("paint 4 0 1;paint 0 0 1;", 6, 24);
        read("shut 4 0;paint 0 0 1;crate a 1 1 0 0 0 0 0 0;", 6, 45);
        read("crate a 1 4 0 0 0 0 0 0;crate b 1 1 0 0 0 0 0 0;", 6, 48);
        read("shut 1 1;crate a 1 1 0 0 0 0 0 0;", 6, 33);
        read("crate a 1 1 0 0 0 0 0 0;shut 1 1;", 6, 33);
        read("crate a 1 1 0 0 0 0 0 0;crate b 1 1 0 0 0 0 0 0;", 6, 48);
        read("crate a 0 1 0 0 0 0 0 0;crate b 1 0 0 0 0 0 0 0;crate c 0 1 1 1 1 1 1 1;", 6, 72);
        good("shut 1 1;paint 1 1 3;shut 1 1;paint 2 2 1;crate a 2 2 0 0 0 0 0 0;");
    }

    private static void whichFaultFirst() {
        read("shut 0 0;".repeat(8) + "shut shut", 2, 72);
        read("shut 0;" + "shut 0 0;".repeat(9), 1, 6);
        read("yard 9 2;x", 1, 9);
        read("yard 9 2;" + "shut 0 0;".repeat(9), 2, 81);
        read("crate a 7 0 1 1 1 1 1 1;crate a 0 0 1 1 1 1 1 1;", 5, 8);
        read("crate a 0 0 1 1 1 1 1 1;crate a 7 0 1 1 1 1 1 1;", 3, 30);
        read("yard 2 2;shut 3 3;seed 1;paint 0 0 10;", 5, 35);
        read("yard 9 9;", 5, 5);
    }

    private static void faultChangesNothing() {
        TippedCrates x = Check.of("yard 3 2;paint 2 1 4;crate a 0 0 1 2 3 4 5 6;costs=7;seed 1;");
        x.tip(0, 0);
        x.hold(1);
        x.tell(1, 1, true);
        for (String text : new String[] {"yard 5 5;x", "yard 5 5;seed", "yard 5 6;", "yard 5 5;yard 2 2;shut 4 4;",
            "yard 5 5;costs=3;seed 77;shut 0 0;" + "shut 1 1;".repeat(9)}) {
            Check.put(x, text);
            Check.due("a fault of " + text, x.read() > 0, true);
            Check.due("wide", x.count(0), 3);
            Check.due("high", x.count(1), 2);
            Check.due("crates", x.count(2), 1);
            Check.due("paid", x.count(4), 7);
            Check.due("shut", x.count(5), 0);
            Check.due("marks", x.count(7), 10);
            Check.due("tape", x.count(8), 0);
            Check.due("to undo", x.count(9), 1);
            Check.due("told", x.count(10), 1);
            Check.due("held", x.count(11), 1);
            Check.due("its flag", x.crate(0, 6), 1);
            Check.due("costs", x.tells(0, 0, 1), 7);
            Check.due("in a minute", x.then(0, 1, 0), 2);
        }
        Check.due("place stays", x.place(), 97);
        Check.due("undo", x.undo(), true);
        Check.due("place stays", x.place(), 97);
    }

    private static void manyTexts() {
        TippedCrates x = new TippedCrates();
        for (int i = 0; i < 20; i++) {
            Check.put(x, "crate a 1 1 1 2 3 4 5 6;costs=" + "1+".repeat(i) + "1;slips=" + "1+".repeat(150) + "1;");
            Check.due("text " + i, x.read(), 0);
            Check.due("its costs", x.tells(0, 0, 1), i + 1);
            Check.due("its slips", x.tells(0, 0, 4), 100);
            Check.put(x, "costs=77;seed 1;yard 9 9;");
            Check.due("a fault", x.read(), 5);
            Check.due("still its costs", x.tells(0, 0, 1), i + 1);
            x.hold(i % 3);
        }
        Check.put(x, "yard 2 2;");
        Check.due("a good one", x.read(), 0);
        for (int slot = 0; slot < 3; slot++) {
            Check.due("slots hold nothing", x.restore(slot), false);
        }
    }

    private static void goodTextIsInPlace() {
        TippedCrates x = Check.of("yard 3 2;paint 2 1 4;shut 2 0;crate a 0 0 1 2 3 4 5 6;costs=7;prints=0;seed 1;");
        x.tip(0, 0);
        x.minutes(2);
        x.hold(2);
        x.tell(1, 1, true);
        Check.put(x, "x");
        Check.due("a fault", x.read(), 1);
        Check.due("its place", x.place(), 0);
        Check.put(x, "crate b 1 1 0 0 0 0 0 0;");
        Check.due("a good one", x.read(), 0);
        Check.due("no place", x.place(), -1);
        int[] counts = {4, 4, 1, 0, 0, 0, 0, 0, 0, 0, 0, 0, 0, 32, 0, 0, 0};
        for (int what = 0; what < counts.length; what++) {
            Check.due("count(" + what + ")", x.count(what), counts[what]);
        }
        Check.due("undo", x.undo(), false);
        Check.due("restore", x.restore(2), false);
        Check.due("tips", x.crate(0, 7), 0);
        Check.due("costs", x.tells(0, 0, 1), 1);
        Check.due("prints", x.tells(0, 0, 2), 1);
        Check.due("by seed 0", x.then(0, 1, 0), 1);
        Check.due("empty tape", x.read(), 0);
        Check.due("no crates", x.count(2), 0);
        x = Check.of("paint 1 0 3;paint 1 0 0;paint 0 1 2;paint 0 1 8;costs=1;costs=2;seed 1;seed 0;"
                + "crate a 1 1 1 2 3 4 5 6;");
        Check.due("the last paint of a flag", x.flag(1, 0), 0);
        Check.due("the last paint of a flag", x.flag(4, 0), 8);
        Check.due("the last law", x.tells(0, 0, 1), 2);
        Check.due("the last seed", x.then(0, 1, 0), 1);
    }
}
