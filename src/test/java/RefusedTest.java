/**
 * A refused call changes nothing that later calls show, nor does one that only asks; a text with a fault changes
 * nothing but the tape; and what is undone, restored or read is as if the rest had never been.
 */
public final class RefusedTest {
    private static final int LEAST = Integer.MIN_VALUE;
    private static final int MOST = Integer.MAX_VALUE;
    private static final int[] ODD = {-2, LEAST, MOST};

    private RefusedTest() {
    }

    public static void main(String[] args) {
        twinsDiffer();
        for (Twins.Deed ahead : new Twins.Deed[] {RefusedTest::nothing, RefusedTest::some, RefusedTest::full}) {
            Twins twins = new Twins(ahead);
            noSuchThings(twins);
            noSuchAsked(twins);
        }
        Twins some = new Twins(RefusedTest::some);
        noSuchCrates(some);
        canNotBe(some);
        nothingToDo(new Twins(RefusedTest::nothing));
        allIsFull(new Twins(RefusedTest::full));
        tapeIsFull(new Twins(RefusedTest::longTape));
        onlyAsked(some);
        onlyAsked(new Twins(RefusedTest::full));
        faultsChangeNothing();
        goodTextsAreInPlace();
        undone();
        restored();
        Check.end("RefusedTest");
    }

    private static void nothing(TippedCrates x) {
    }

    /**
     * Flags of 3 by 3: 1 is shut, 8 painted, a on 0 can only go near once b on 3 has gone, which it has not;
     * c on 5. Four things done, one slot held, three told, a text begun on the tape, a fault read.
     */
    private static void some(TippedCrates x) {
        Check.put(x, "yard 3 3;shut 1 0;paint 2 2 5;crate a 0 0 1 2 3 4 5 6;crate b 0 1 6 5 4 3 2 1;"
                + "crate c 1 1 1 1 2 2 3 3;costs=3+way;slips=40;takes=left;prints=top-1;seed 7;");
        x.read();
        Check.put(x, "yard 3 3;seed;");
        x.read();
        x.tip(2, 0);
        x.hold(1);
        x.paint(6, 9);
        x.minutes(0);
        x.tip(2, 1);
        x.tip(2, 3);
        x.tell(1, 4, true);
        x.tell(2, 5, false);
        x.tell(3, 5, false);
        Check.put(x, "yard 2 2;seed 5");
    }

    /** More things done than can be undone, every slot held, twenty told. */
    private static void full(TippedCrates x) {
        Check.put(x, "yard 5 4;shut 4 0;shut 0 3;paint 2 2 5;crate a 0 0 1 2 3 4 5 6;crate b 0 1 6 5 4 3 2 1;"
                + "crate c 3 3 7 7 7 7 7 8;costs=flag+1;slips=90;takes=left-2;prints=top-1;seed 9999;");
        x.read();
        for (int i = 0; i < 45; i++) {
            if (i % 20 == 7) {
                x.hold(i / 20);
            }
            if (i % 3 == 0) {
                x.minutes(1 + i % 4);
            } else {
                x.paint(11 + i % 2 * 3, 1 + i % 9);
                x.tip(i % 3, i / 2 % 4);
            }
        }
        for (int i = 0; i < 20; i++) {
            x.tell(1 + i % 5, i % 10, i % 7 == 6);
        }
        Check.put(x, "yard 3 5;");
    }

    /** A tape of 1,981 bytes, the fewest onto which no twenty can come. */
    private static void longTape(TippedCrates x) {
        some(x);
        x.back(15);
        Check.put(x, "yard 3 5;" + " ".repeat(1972));
    }

    /** The looks are worth something: each of these can be told from none at all. */
    private static void twinsDiffer() {
        Twins.Deed[] deeds = {x -> x.tip(2, 2), x -> x.paint(6, 3), x -> x.minutes(1), x -> x.undo(), x -> x.hold(0),
            x -> x.hold(1), x -> x.restore(1), x -> x.tell(1, 4, true), x -> x.tell(4, 4, true), x -> x.forget(),
            x -> x.back(1), x -> x.feed(0, 0, 0, 0, 0), x -> x.read(), x -> x.paint(7, 9)};
        for (int i = 0; i < deeds.length; i++) {
            Twins.Deed one = deeds[i];
            Check.due("deed " + i + " is seen", Twins.areAlike(RefusedTest::some, x -> {
                some(x);
                one.on(x);
            }), false);
        }
        Check.due("the same is alike", Twins.areAlike(RefusedTest::full, RefusedTest::full), true);
    }

    private static int bit(boolean answer) {
        return answer ? 1 : 0;
    }

    private static void noSuchThings(Twins twins) {
        Check.says("TIPPED: on which flag it is then; NONE, and nothing happens: it can not be, no such ones.");
        twins.nothingBy("tip(3, 0)", -1, x -> x.tip(3, 0));
        twins.nothingBy("tip(-1, 0)", -1, x -> x.tip(-1, 0));
        twins.nothingBy("tip(2, 4)", -1, x -> x.tip(2, 4));
        twins.nothingBy("tip(2, -1)", -1, x -> x.tip(2, -1));
        Check.says("A flag is painted: true; false, and nothing happens: it has that mark, a CRATE is there, SHUT, no "
                + "such ones.");
        twins.nothingBy("paint(25, 1)", 0, x -> bit(x.paint(25, 1)));
        twins.nothingBy("paint(-1, 1)", 0, x -> bit(x.paint(-1, 1)));
        twins.nothingBy("paint(6, 10)", 0, x -> bit(x.paint(6, 10)));
        twins.nothingBy("paint(6, -1)", 0, x -> bit(x.paint(6, -1)));
        Check.says("n MINUTES (0 .. 60; 0 is no thing done) go by: which it is; NONE, and nothing happens: no such n.");
        twins.nothingBy("minutes(61)", -1, x -> x.minutes(61));
        twins.nothingBy("minutes(-1)", -1, x -> x.minutes(-1));
        twins.nothingBy("minutes(0)", x -> x.minutes(0));
        Check.says("It is TOLD: its number; NONE, and nothing happens: 20 are there, no such ones.");
        twins.nothingBy("tell(0, 1, true)", -1, x -> x.tell(0, 1, true));
        twins.nothingBy("tell(6, 1, true)", -1, x -> x.tell(6, 1, true));
        twins.nothingBy("tell(1, 10, false)", -1, x -> x.tell(1, 10, false));
        twins.nothingBy("tell(1, -1, false)", -1, x -> x.tell(1, -1, false));
        Check.says("NONE, and nothing goes, if it has not so many, or n is below 0.");
        twins.nothingBy("back(2000)", -1, x -> x.back(2000));
        twins.nothingBy("back(-1)", -1, x -> x.back(-1));
        twins.nothingBy("back(0)", x -> x.back(0));
        Check.says("is held in a SLOT (0 .. 2): true; false: no such one.");
        twins.nothingBy("hold(3)", 0, x -> bit(x.hold(3)));
        twins.nothingBy("hold(-1)", 0, x -> bit(x.hold(-1)));
        Check.says("true; false, and nothing happens: no such one, nothing is held.");
        twins.nothingBy("restore(3)", 0, x -> bit(x.restore(3)));
        twins.nothingBy("restore(-1)", 0, x -> bit(x.restore(-1)));
        for (int odd : ODD) {
            twins.nothingBy("odd calls of " + odd, -6, x -> x.tip(odd, 0) + x.tip(2, odd) + x.minutes(odd)
                    + x.tell(odd, 1, true) + x.tell(1, odd, true) + x.back(odd) + bit(x.hold(odd))
                    + bit(x.restore(odd)) + bit(x.paint(odd, 1)) + bit(x.paint(6, odd)));
        }
    }

    private static void noSuchAsked(Twins twins) {
        Check.says("What would be (nothing happens;");
        for (int no : new int[] {-1, 3, LEAST, MOST}) {
            twins.nothingBy("asked of crate " + no, -20, x -> x.crate(no, 0) + x.tells(no, 0, 0)
                    + x.fewest(no, 0, 0, -1) + x.cheapest(no, 0) + x.never(no, 0) + x.nearest(no, 0, 0) + x.spots(no)
                    + x.round(no, 0) + x.richest(no, 1, 0) + x.spell(no, 0, 1) + x.game(no, 1, 0) + x.tops(no)
                    + x.beside(no, 0) + x.alike(no, 0) + x.looks(no) + x.mirror(no) + x.then(no, 1, 0)
                    + x.year(no, 0, 1, 1) + x.rows(0, no, 1, 0) + x.listen(0, no, 1));
        }
        for (int no : new int[] {-1, 25, LEAST, MOST}) {
            twins.nothingBy("asked of flag " + no, -4, x -> x.flag(no, 0) + x.fewest(0, no, 0, -1) + x.cheapest(0, no)
                    + x.flagIn(no, 1));
        }
        for (int no : new int[] {-1, 61, LEAST, MOST}) {
            twins.nothingBy("asked in minutes " + no, -4, x -> x.then(0, no, 0) + x.flagIn(0, no) + x.paidIn(no)
                    + x.year(0, 0, no, 1));
            twins.nothingBy("asked of what " + no, -5, x -> x.count(no) + x.flag(0, no) + x.crate(0, no)
                    + x.tells(0, 0, no) + x.then(0, 1, no));
        }
    }

    private static void noSuchCrates(Twins twins) {
        Check.says("NONE: no such ones, not so many.");
        for (int no : new int[] {-1, 10, LEAST, MOST}) {
            twins.nothingBy("asked of mark " + no, -4, x -> x.fewest(0, 0, no, -1) + x.never(0, no)
                    + x.nearest(0, no, 0) + x.year(0, no, 1, 1));
        }
        for (int no : new int[] {-1, 2, LEAST, MOST}) {
            twins.nothingBy("asked of what " + no, -6, x -> x.nearest(0, 0, no) + x.round(0, no)
                    + x.richest(0, 1, no) + x.game(0, 1, no) + x.then(0, 1, no) + x.rows(0, 0, 1, no));
        }
        for (int no : new int[] {0, 7, LEAST, MOST}) {
            twins.nothingBy("so many as " + no, -4, x -> x.spell(0, 0, no) + x.game(0, no, 0) + x.rows(0, 0, no, 0)
                    + x.listen(0, 0, no));
        }
        twins.nothingBy("known by more than told", -2, x -> x.rows(4, 0, 1, 0) + x.listen(4, 0, 1));
        twins.nothingBy("known by fewer than none", -2, x -> x.rows(-1, 0, 1, 0) + x.listen(-1, 0, 1));
        twins.nothingBy("seeds", -2, x -> x.year(0, 0, 1, 0) + x.year(0, 0, 1, 21));
        twins.nothingBy("richest of 41, of -1", -2, x -> x.richest(0, 41, 0) + x.richest(0, -1, 0));
        twins.nothingBy("beside itself", -1, x -> x.beside(1, 1));
        twins.nothingBy("digits", -2, x -> x.spell(0, 10, 1) + x.spell(0, -1, 1));
        twins.nothingBy("the 99th way", x -> x.fewest(2, 3, 1, 99));
    }

    private static void canNotBe(Twins twins) {
        Check.says("it comes to the next flag that way, if that is in the YARD, not SHUT, no other CRATE is there");
        twins.nothingBy("tip onto a shut flag", -1, x -> x.tip(0, 0));
        twins.nothingBy("tip onto another crate's", -1, x -> x.tip(0, 1));
        twins.nothingBy("tip left out of the yard", -1, x -> x.tip(0, 2));
        twins.nothingBy("tip far out of the yard", -1, x -> x.tip(0, 3));
        twins.nothingBy("tip right out of the yard", -1, x -> x.tip(2, 0));
        Check.says("it has that mark, a CRATE is there, SHUT, no such ones.");
        twins.nothingBy("paint a shut flag", 0, x -> bit(x.paint(1, 4)));
        twins.nothingBy("paint beneath a crate", 0, x -> bit(x.paint(0, 4)));
        twins.nothingBy("paint the mark that it has", 0, x -> bit(x.paint(6, 9)));
        twins.nothingBy("wash a flag without a mark", 0, x -> bit(x.paint(7, 0)));
        twins.nothingBy("paint flag 9 of 9", 0, x -> bit(x.paint(9, 4)));
        Check.says("no such one, nothing is held.");
        twins.nothingBy("restore of an empty slot", 0, x -> bit(x.restore(0)));
        twins.nothingBy("restore of an empty slot", 0, x -> bit(x.restore(2)));
        Check.says("n MINUTES (0 .. 60; 0 is no thing done) go by: which it is;");
        twins.nothingBy("minutes(0)", 0, x -> x.minutes(0));
        Check.says("NONE, and nothing goes, if it has not so many, or n is below 0.");
        twins.nothingBy("one byte too many", -1, x -> x.back(16));
        twins.nothingBy("no byte", 15, x -> x.back(0));
    }

    private static void nothingToDo(Twins twins) {
        Check.says("true; false: there is none (the last 40 can be).");
        twins.nothingBy("undo()", 0, x -> bit(x.undo()));
        Check.says("All that was TOLD is forgotten: how many there were.");
        twins.nothingBy("forget()", 0, x -> x.forget());
        Check.says("no such one, nothing is held.");
        twins.nothingBy("restore()", 0, x -> bit(x.restore(0)) + bit(x.restore(1)) + bit(x.restore(2)));
        Check.says("NONE, and nothing goes, if it has not so many, or n is below 0.");
        twins.nothingBy("back(1)", -1, x -> x.back(1));
        twins.nothingBy("paint(0, 0)", 0, x -> bit(x.paint(0, 0)));
        twins.nothingBy("paint(16, 1)", 0, x -> bit(x.paint(16, 1)));
        twins.nothingBy("tip(0, 0)", -1, x -> x.tip(0, 0));
    }

    private static void tapeIsFull(Twins twins) {
        Check.says("NONE, and nothing comes, if it would have more than 2,000.");
        twins.nothingBy("feed()", -1, x -> x.feed(0x23232323, 0x23232323, 0x23232323, 0x23232323, 0x23232323));
        twins.nothingBy("feed()", -1, x -> x.feed(-1, -1, -1, -1, -1));
        Check.says("NONE, and nothing goes, if it has not so many, or n is below 0.");
        twins.nothingBy("back(1982)", -1, x -> x.back(1982));
    }

    private static void allIsFull(Twins twins) {
        Check.says("NONE, and nothing happens: 20 are there, no such ones.");
        twins.nothingBy("tell(1, 1, true)", -1, x -> x.tell(1, 1, true));
        twins.nothingBy("tell(5, 9, false)", -1, x -> x.tell(5, 9, false));
    }

    /** Every call that only asks, with arguments that it has an answer for. */
    private static void onlyAsked(Twins twins) {
        Check.says("What would be (nothing happens; marks of faces and of flags are as now, nothing is printed or "
                + "taken up, other CRATES stay where they are, but in IN n MINUTES and YEAR).");
        for (int each = 0; each < 3; each++) {
            int crate = each;
            twins.nothingBy("walks", x -> {
                x.fewest(crate, 8, 1, -1);
                x.fewest(crate, 8, 1, 0);
                x.cheapest(crate, 8);
                x.never(crate, 1);
                x.nearest(crate, 1, 0);
                x.spots(crate);
                x.round(crate, 0);
                x.round(crate, 1);
                x.tops(crate);
                x.beside(crate, (crate + 1) % 3);
            });
            twins.nothingBy("rows", x -> {
                x.richest(crate, 40, 0);
                x.spell(crate, 123456, 6);
                x.game(crate, 6, 1);
                x.rows(3, crate, 5, 1);
                x.listen(2, crate, 5);
                x.alike(crate, 1);
                x.looks(crate);
                x.mirror(crate);
            });
            twins.nothingBy("minutes to come", x -> {
                x.then(crate, 60, 0);
                x.flagIn(crate, 60);
                x.paidIn(60);
                x.year(crate, 1, 60, 20);
            });
            twins.nothingBy("what is", x -> {
                x.flag(crate, 2);
                x.crate(crate, 7);
                x.tells(crate, 1, 4);
                x.count(15);
                x.place();
            });
        }
    }

    private static void faultsChangeNothing() {
        Check.says("A text with a FAULT changes nothing but the tape;");
        String[] faults = {"yard 5 2;shut 0 0;crate z 1 1 9 9 9 9 9 9;costs=9;prints=0;seed 1;#",
            "yard 5 2;seed 3;costs=8;" + "paint 1 1 3;".repeat(11),
            "yard 5 2;costs=7;takes=1;" + "crate z 1 1 9 9 9 9 9 9;".repeat(2) + "slips=99;",
            "yard 5 2;crate z 1 1 9 9 9 9 9 9;seed 6;slips=50;prints=0;shut 0 5;",
            "yard 5 2;crate z 1 1 9 9 9 9 9 9;seed 8;costs=50;shut 0 4;", "yard 5 2;costs=" + "1+".repeat(200) + "1;",
            "costs=if 1<2 then 3 else 4"};
        int[] numbers = {1, 2, 3, 5, 6, 2, 1};
        for (int i = 0; i < faults.length; i++) {
            String text = faults[i];
            int number = numbers[i];
            for (Twins.Deed ahead : new Twins.Deed[] {RefusedTest::nothing, RefusedTest::some, RefusedTest::full}) {
                int place = placeOf(text);
                // Both have read that fault: the one now, the other ahead of all else, and have emptied their tapes.
                Check.due("behind " + text, Twins.areAlike(x -> {
                    ahead.on(x);
                    x.back(x.count(8));
                    Check.put(x, " ".repeat(place) + "#");
                    x.read();
                }, x -> {
                    ahead.on(x);
                    x.back(x.count(8));
                    Check.put(x, text);
                    Check.due("fault of " + text, x.read(), number);
                    Check.due("place of " + text, x.place(), place);
                }), true);
            }
        }
    }

    private static int placeOf(String text) {
        TippedCrates x = new TippedCrates();
        Check.put(x, text);
        x.read();
        return x.place();
    }

    private static void goodTextsAreInPlace() {
        Check.says("else it is in place of the one ahead: minute 0, nothing tipped, nothing paid; nothing can be "
                + "undone, nothing is TOLD, SLOTS hold nothing.");
        for (String text : new String[] {"", "yard 2 2;", "seed 3;crate z 1 1 9 8 7 6 5 4;",
            "yard 5 5;paint 4 4 3;shut 0 4;crate q 0 0 1 1 1 2 2 2;crate a 3 3 1 2 3 4 5 6;costs=tips;slips=minute;"}) {
            for (Twins.Deed ahead : new Twins.Deed[] {RefusedTest::some, RefusedTest::full}) {
                Check.due("in place: " + text, Twins.areAlike(x -> readText(x, text), x -> {
                    ahead.on(x);
                    readText(x, text);
                }), true);
            }
        }
        Check.due("an empty text is as a new object", Twins.areAlike(RefusedTest::nothing, x -> {
            full(x);
            readText(x, "");
        }), true);
    }

    private static void readText(TippedCrates x, String text) {
        x.back(x.count(8));
        Check.put(x, text);
        Check.due("read of " + text, x.read(), 0);
    }

    private static void undone() {
        Check.says("The last thing done (tip, paint, minutes) is undone: true;");
        Twins some = new Twins(RefusedTest::some);
        some.nothingBy("tip, undo", x -> {
            x.tip(2, 2);
            Check.due("undo()", x.undo(), true);
        });
        some.nothingBy("paint, undo", x -> {
            x.paint(7, 7);
            Check.due("undo()", x.undo(), true);
        });
        some.nothingBy("washed, undo", x -> {
            x.paint(6, 0);
            Check.due("undo()", x.undo(), true);
        });
        some.nothingBy("minutes, undo", x -> {
            x.minutes(60);
            Check.due("undo()", x.undo(), true);
        });
        some.nothingBy("one of each, undo", x -> {
            x.minutes(1);
            x.paint(7, 7);
            x.tip(2, 2);
            x.minutes(60);
            for (int i = x.count(9); i > 4; i--) {
                x.undo();
            }
        });
    }

    private static void restored() {
        Check.says("It goes on from what a SLOT holds (that stays there; nothing can be undone then): true;");
        Twins.Deed held = x -> {
            some(x);
            x.hold(2);
            x.restore(2);
        };
        Check.due("restored at once or later", Twins.areAlike(held, x -> {
            some(x);
            x.hold(2);
            x.minutes(60);
            x.tip(2, 2);
            x.paint(6, 1);
            x.undo();
            Check.due("restore(2)", x.restore(2), true);
            x.minutes(3);
            Check.due("restore(2) once more", x.restore(2), true);
        }), true);
        Check.says("All that goes on (not what is TOLD, nor the tape) is held in a SLOT (0 .. 2): true;");
        Check.due("what is told and the tape are as they came to be since", Twins.areAlike(x -> {
            held.on(x);
            x.tell(4, 4, true);
            x.back(3);
        }, x -> {
            some(x);
            x.hold(2);
            x.tell(4, 4, true);
            x.back(3);
            x.restore(2);
        }), true);
    }
}
