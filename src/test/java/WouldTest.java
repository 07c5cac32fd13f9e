/** Promises 13 to 26 and 31 to 34: what would be, and what is told and known of it. */
public final class WouldTest {
    /** A lane of five flags, 0, 2, 4, 6, 8, down which a crate can only go near and far. */
    private static final String LANE = "yard 2 5;shut 1 0;shut 1 1;shut 1 2;shut 1 3;shut 1 4;";
    private static final String A = "crate a 0 0 1 2 3 4 5 6;";
    private static final int LEAST = Integer.MIN_VALUE;
    private static final int MOST = Integer.MAX_VALUE;

    private WouldTest() {
    }

    public static void main(String[] args) {
        fewest();
        cheapest();
        neverAndNearest();
        spotsTopsAndRound();
        richest();
        spell();
        game();
        beside();
        alikeLooksMirror();
        tellAndForget();
        rows();
        listen();
        nothingHappens();
        atOnce();
        Check.end("WouldTest");
    }

    private static void fewest() {
        TippedCrates x = Check.of(LANE + A);
        Check.due("where it is", x.fewest(0, 0, 1, -1), 0);
        Check.due("no way to there", x.fewest(0, 0, 1, 0), -1);
        Check.due("all down the lane", x.fewest(0, 8, 1, -1), 4);
        for (int i = 0; i < 4; i++) {
            Check.due("its way", x.fewest(0, 8, 1, i), 1);
        }
        Check.due("not so many", x.fewest(0, 8, 1, 4), -1);
        Check.due("i -2", x.fewest(0, 8, 1, -2), -1);
        Check.due("i least", x.fewest(0, 8, 1, LEAST), -1);
        Check.due("i most", x.fewest(0, 8, 1, MOST), -1);
        Check.due("it reads otherwise there", x.fewest(0, 8, 3, -1), -2);
        Check.due("i or not", x.fewest(0, 8, 3, 0), -2);
        Check.due("shut", x.fewest(0, 1, 1, -1), -2);
        Check.due("crate 1", x.fewest(1, 0, 1, -1), -1);
        Check.due("crate -1", x.fewest(-1, 0, 1, -1), -1);
        Check.due("flag 10", x.fewest(0, 10, 1, -1), -1);
        Check.due("flag -1", x.fewest(0, -1, 1, -1), -1);
        Check.due("mark 10", x.fewest(0, 0, 10, -1), -1);
        Check.due("mark -1", x.fewest(0, 0, -1, -1), -1);
        fewestWays();
    }

    private static void fewestWays() {
        // All faces alike: of the six walks of four to the far corner the lowest ways go right, right, near, near.
        TippedCrates x = Check.of("yard 3 3;crate a 0 0 7 7 7 7 7 7;");
        int[] lowest = {0, 0, 1, 1};
        Check.due("alike faces", x.fewest(0, 8, 7, -1), 4);
        for (int i = 0; i < 4; i++) {
            Check.due("lowest way " + i, x.fewest(0, 8, 7, i), lowest[i]);
        }
        x = Check.of("yard 3 3;crate a 2 2 7 7 7 7 7 7;");
        int[] backwards = {2, 2, 3, 3};
        for (int i = 0; i < 4; i++) {
            Check.due("lowest way back " + i, x.fewest(0, 0, 7, i), backwards[i]);
        }
        x = Check.of("yard 2 2;" + A);
        // Twice about the square's other side: on its own flag, the far side up behind four by 1, 0, 3, 2.
        Check.due("own flag, other mark", x.fewest(0, 0, 3, -1), 4);
        int[] ways = {1, 0, 3, 2};
        for (int i = 0; i < 4; i++) {
            Check.due("round by " + i, x.fewest(0, 0, 3, i), ways[i]);
        }
        x = Check.of("yard 3 2;crate b 1 0 0 0 0 0 0 0;" + A + "crate c 1 1 0 0 0 0 0 0;");
        Check.due("behind other crates", x.fewest(1, 2, 1, -1), -2);
        Check.due("their flags", x.fewest(1, 1, 5, -1), -2);
        Check.due("down", x.fewest(1, 3, 3, -1), 1);
    }

    private static void cheapest() {
        TippedCrates x = Check.of("yard 3 2;paint 1 0 9;" + A + "costs=1+flag*10;");
        Check.due("about the paint", x.cheapest(0, 2), 4);
        Check.due("onto the paint", x.cheapest(0, 1), 91);
        Check.due("where it is", x.cheapest(0, 0), 0);
        x = Check.of("yard 3 2;" + A + "costs=beneath;");
        Check.due("by its faces, right twice", x.cheapest(0, 2), 7);
        Check.due("by its faces, crosswise", x.cheapest(0, 4), 10);
        x = Check.of(LANE + A + "costs=over*10;");
        Check.due("over: 3, 2, 4", x.cheapest(0, 6), 90);
        Check.due("shut", x.cheapest(0, 1), -2);
        x = Check.of(LANE + A + "costs=100;");
        Check.due("held to 99 each", x.cheapest(0, 8), 396);
        x = Check.of("yard 3 2;" + A + "costs=tips*9+minute;prints=0;");
        Check.due("tips as now", x.cheapest(0, 5), 0);
        x.tip(0, 0);
        Check.due("tips as now", x.cheapest(0, 5), 18);
        x = Check.of("yard 3 2;" + A + "costs=if way<1 then 50 else top*2+left;");
        Check.due("each by its way", x.cheapest(0, 3), 2);
        Check.due("each by its way", x.cheapest(0, 5), 102);
        Check.due("no crate", x.cheapest(1, 0), -1);
        Check.due("no crate", x.cheapest(-1, 0), -1);
        Check.due("no flag", x.cheapest(0, 6), -1);
        Check.due("no flag", x.cheapest(0, -1), -1);
        x = Check.of("yard 5 5;" + A + "costs=which+0;");
        Check.due("for nothing", x.cheapest(0, 24), 0);
        x = Check.of("yard 3 2;crate b 1 0 0 0 0 0 0 0;" + A + "crate c 1 1 0 0 0 0 0 0;costs=which;");
        Check.due("which", x.cheapest(1, 3), 1);
        Check.due("behind others", x.cheapest(1, 5), -2);
    }

    private static void neverAndNearest() {
        TippedCrates x = Check.of(LANE + A);
        // On top down the lane: 1, 3, 2, 4, 1.
        int all = 0b1111111111;
        Check.due("never 0", x.never(0, 0), all);
        Check.due("never 1", x.never(0, 1), all & ~(1 | 1 << 8));
        Check.due("never 2", x.never(0, 2), all & ~(1 << 4));
        Check.due("never 3", x.never(0, 3), all & ~(1 << 2));
        Check.due("never 4", x.never(0, 4), all & ~(1 << 6));
        Check.due("never 5", x.never(0, 5), all);
        Check.due("no mark", x.never(0, 10), -1);
        Check.due("no mark", x.never(0, -1), -1);
        Check.due("no crate", x.never(1, 0), -1);
        Check.due("no crate", x.never(-1, 0), -1);
        int[] flags = {-2, 0, 4, 2, 6, -2};
        int[] tippings = {-2, 0, 2, 1, 3, -2};
        for (int mark = 0; mark < 6; mark++) {
            Check.due("nearest " + mark, x.nearest(0, mark, 0), flags[mark]);
            Check.due("by " + mark, x.nearest(0, mark, 1), tippings[mark]);
        }
        for (int what = -1; what < 3; what++) {
            Check.due("no mark", x.nearest(0, 10, what), -1);
            Check.due("no mark", x.nearest(0, -1, what), -1);
            Check.due("no crate", x.nearest(1, 1, what), -1);
            Check.due("no crate", x.nearest(-1, 1, what), -1);
        }
        Check.due("no what", x.nearest(0, 1, 2), -1);
        Check.due("no what", x.nearest(0, 1, -1), -1);
        x = Check.of("yard 5 5;crate a 2 2 1 9 4 4 4 4;");
        Check.due("of alike ones the lowest", x.nearest(0, 4, 0), 7);
        Check.due("by one", x.nearest(0, 4, 1), 1);
        Check.due("of alike ones the lowest", x.nearest(0, 9, 0), 2);
        Check.due("by two", x.nearest(0, 9, 1), 2);
        Check.due("5 by 5, all of them", x.never(0, 4), 0);
        Check.due("5 by 5, none of them", x.never(0, 5), (1 << 25) - 1);
        x = Check.of("yard 2 2;crate b 1 0 0 0 0 0 0 0;crate c 0 1 0 0 0 0 0 0;" + A);
        Check.due("stuck, but there", x.never(2, 1), 0b1110);
        Check.due("stuck, not so", x.never(2, 2), 0b1111);
        Check.due("stuck, near enough", x.nearest(2, 1, 1), 0);
    }

    private static void spotsTopsAndRound() {
        TippedCrates x = Check.of(LANE + A);
        Check.due("spots of a lane", x.spots(0), 5);
        Check.due("tops of a lane", x.tops(0), 0b11110);
        Check.due("there and back", x.round(0, 0), 2);
        Check.due("never turned", x.round(0, 1), -2);
        x = Check.of("yard 2 2;" + A);
        Check.due("spots of 2 by 2", x.spots(0), 12);
        Check.due("turned by four", x.round(0, 1), 4);
        // One corner of it stays on the middle of the yard, so that only the three sides off it come on top.
        Check.due("tops of 2 by 2", x.tops(0), 1 << 1 | 1 << 3 | 1 << 5);
        x = Check.of("yard 3 3;crate a 2 1 1 2 3 4 5 6;");
        Check.due("turned on another flag", x.round(0, 1), 4);
        x = Check.of("yard 3 2;crate a 0 0 7 7 7 7 7 7;");
        Check.due("24 ways, whatever the marks", x.spots(0), 72);
        Check.due("turned, whatever the marks", x.round(0, 1), 4);
        Check.due("tops", x.tops(0), 1 << 7);
        x = Check.of("yard 5 5;" + A);
        Check.due("half of 600, by chequers", x.spots(0), 300);
        x = Check.of("yard 3 3;shut 1 1;" + A);
        Check.due("about a shut flag: there and back", x.round(0, 0), 2);
        Check.due("about a shut flag: half turns, which come out even", x.round(0, 1), -2);
        Check.due("about a shut flag: spots", x.spots(0), 8);
        x = Check.of("yard 2 2;crate b 1 0 0 0 0 0 0 0;crate c 0 1 0 0 0 0 0 0;" + A);
        Check.due("stuck", x.spots(2), 1);
        Check.due("stuck", x.round(2, 0), -2);
        Check.due("stuck", x.round(2, 1), -2);
        Check.due("stuck", x.tops(2), 2);
        for (int crate : new int[] {3, -1, LEAST, MOST}) {
            Check.due("no crate", x.spots(crate), -1);
            Check.due("no crate", x.tops(crate), -1);
            Check.due("no crate", x.round(crate, 0), -1);
        }
        Check.due("no what", x.round(0, 2), -1);
        Check.due("no what", x.round(0, -1), -1);
    }

    private static void richest() {
        TippedCrates x = Check.of(LANE + A);
        // Beneath down the lane: 2, 4, 1, 3, 2.
        int[] most = {0, 4, 6, 10, 12};
        for (int n = 0; n < most.length; n++) {
            Check.due("richest in " + n, x.richest(0, n, 0), most[n]);
            Check.due("its way", x.richest(0, n, 1), n == 0 ? -2 : 1);
        }
        Check.due("richest in 40", x.richest(0, 40, 0), 120);
        x = Check.of("yard 3 3;crate a 1 1 0 0 5 5 5 5;");
        Check.due("alike", x.richest(0, 1, 0), 5);
        Check.due("the lowest way", x.richest(0, 1, 1), 0);
        x = Check.of("yard 3 3;crate a 1 1 0 0 5 5 7 5;");
        Check.due("the best way", x.richest(0, 1, 1), 2);
        x = Check.of("yard 3 3;crate a 1 1 0 0 7 5 5 5;");
        Check.due("the best way", x.richest(0, 1, 1), 3);
        Check.due("how much", x.richest(0, 1, 0), 7);
        x = Check.of("yard 3 3;crate a 1 1 9 9 9 9 9 9;");
        Check.due("most of all", x.richest(0, 40, 0), 360);
        Check.due("the lowest way", x.richest(0, 40, 1), 0);
        x = Check.of("yard 2 2;crate b 1 0 0 0 0 0 0 0;crate c 0 1 0 0 0 0 0 0;" + A);
        Check.due("stuck in 0", x.richest(2, 0, 0), 0);
        Check.due("stuck in 0", x.richest(2, 0, 1), -2);
        Check.due("stuck in 1", x.richest(2, 1, 0), -2);
        Check.due("stuck in 40", x.richest(2, 40, 1), -2);
        Check.due("n 41", x.richest(0, 41, 0), -1);
        Check.due("n -1", x.richest(0, -1, 0), -1);
        Check.due("what 2", x.richest(0, 1, 2), -1);
        Check.due("what -1", x.richest(0, 1, -1), -1);
        Check.due("crate 3", x.richest(3, 1, 0), -1);
        Check.due("crate -1", x.richest(-1, 1, 0), -1);
    }

    private static void spell() {
        TippedCrates x = Check.of(LANE + A);
        Check.due("4", x.spell(0, 4, 1), 1);
        Check.due("2", x.spell(0, 2, 1), 0);
        Check.due("41", x.spell(0, 41, 2), 1);
        Check.due("42", x.spell(0, 42, 2), 1);
        Check.due("04", x.spell(0, 4, 2), 0);
        Check.due("424242", x.spell(0, 424242, 6), 1);
        Check.due("413231", x.spell(0, 413231, 6), 1);
        Check.due("999999", x.spell(0, 999999, 6), 0);
        x = Check.of("yard 2 2;crate a 0 0 0 0 0 0 0 0;");
        Check.due("00", x.spell(0, 0, 2), 4);
        Check.due("000000", x.spell(0, 0, 6), 64);
        x = Check.of("yard 5 5;crate a 2 2 8 8 8 8 8 8;");
        Check.due("8", x.spell(0, 8, 1), 4);
        Check.due("88", x.spell(0, 88, 2), 16);
        Check.due("888", x.spell(0, 888, 3), 60);
        x = Check.of("yard 3 3;crate a 1 1 0 0 0 5 0 5;");
        Check.due("05: left, near or far, right", x.spell(0, 5, 2), 2);
        for (int n = 1, ten = 10; n < 7; n++, ten *= 10) {
            Check.due("too many digits", x.spell(0, ten, n), -1);
            Check.due("as many digits", x.spell(0, ten - 1, n), 0);
        }
        Check.due("below 0", x.spell(0, -1, 1), -1);
        Check.due("least", x.spell(0, LEAST, 6), -1);
        Check.due("most", x.spell(0, MOST, 6), -1);
        Check.due("n 0", x.spell(0, 0, 0), -1);
        Check.due("n 7", x.spell(0, 0, 7), -1);
        Check.due("n -1", x.spell(0, 0, -1), -1);
        Check.due("crate 1", x.spell(1, 0, 1), -1);
        Check.due("crate -1", x.spell(-1, 0, 1), -1);
    }

    private static void game() {
        TippedCrates x = Check.of(LANE + A);
        int[] marks = {0, 3, 1, 3};
        for (int n = 1; n < 4; n++) {
            Check.due("game of " + n, x.game(0, n, 0), marks[n]);
            Check.due("its way", x.game(0, n, 1), 1);
        }
        // Down the lane 1, 3, 2, 4, 1 are on top: in six the other can always come back to 1.
        Check.due("game of 6", x.game(0, 6, 0), 1);
        Check.due("game of 5", x.game(0, 5, 0), 3);
        x = Check.of("yard 2 5;shut 1 0;shut 1 1;shut 1 2;shut 1 3;shut 1 4;crate a 0 1 3 4 2 1 5 6;");
        // From the lane's second flag: far brings 1, then 3 for sure; near brings 2, whence 3 or 4.
        Check.due("game of 2", x.game(0, 2, 0), 3);
        Check.due("near is as good and lower", x.game(0, 2, 1), 1);
        Check.due("game of 1", x.game(0, 1, 0), 2);
        Check.due("near", x.game(0, 1, 1), 1);
        x = Check.of("yard 3 3;crate a 1 1 0 0 5 5 5 5;");
        Check.due("alike", x.game(0, 1, 0), 5);
        Check.due("the lowest way", x.game(0, 1, 1), 0);
        x = Check.of("yard 3 3;crate a 1 1 0 0 5 7 5 5;");
        Check.due("most", x.game(0, 1, 0), 7);
        Check.due("far brings near on top", x.game(0, 1, 1), 3);
        Check.due("the other tips it back", x.game(0, 2, 0), 0);
        Check.due("all as good", x.game(0, 2, 1), 0);
        x = Check.of("yard 2 2;crate b 1 0 0 0 0 0 0 0;crate c 0 1 0 0 0 0 0 0;" + A);
        Check.due("stuck", x.game(2, 6, 0), 1);
        Check.due("stuck", x.game(2, 6, 1), -2);
        Check.due("n 0", x.game(2, 0, 0), -1);
        Check.due("n 7", x.game(2, 7, 0), -1);
        Check.due("what 2", x.game(2, 1, 2), -1);
        Check.due("what -1", x.game(2, 1, -1), -1);
        Check.due("crate 3", x.game(3, 1, 0), -1);
        Check.due("crate -1", x.game(-1, 1, 0), -1);
    }

    private static void beside() {
        TippedCrates x = Check.of("yard 5 2;crate b 4 0 0 0 0 0 0 0;" + A + "crate c 3 1 0 0 0 0 0 0;");
        Check.due("three to its left", x.beside(1, 0), 3);
        Check.due("two to c's left", x.beside(1, 2), 3);
        Check.due("aslant is not next to it", x.beside(2, 0), 1);
        Check.due("one and the same", x.beside(1, 1), -1);
        Check.due("no such other", x.beside(1, 3), -1);
        Check.due("no such other", x.beside(1, -1), -1);
        Check.due("no such", x.beside(3, 0), -1);
        Check.due("no such", x.beside(-1, 0), -1);
        x.tip(2, 0);
        Check.due("next to it", x.beside(2, 0), 0);
        Check.due("next to it", x.beside(0, 2), 0);
        x = Check.of(LANE + A + "crate b 0 4 0 0 0 0 0 0;");
        Check.due("down the lane", x.beside(0, 1), 3);
        Check.due("up the lane", x.beside(1, 0), 3);
        x = Check.of("yard 2 5;shut 0 2;shut 1 2;" + A + "crate b 0 4 0 0 0 0 0 0;");
        Check.due("shut off", x.beside(0, 1), -2);
    }

    private static void alikeLooksMirror() {
        TippedCrates x = Check.of(A + "crate b 1 1 5 6 3 4 2 1;crate c 2 2 1 2 3 4 6 5;");
        Check.due("tipped", x.alike(0, 1), 1);
        Check.due("tipped", x.alike(1, 0), 1);
        Check.due("mirrored", x.alike(0, 2), 0);
        Check.due("itself", x.alike(2, 2), 1);
        Check.due("no such", x.alike(0, 3), -1);
        Check.due("no such", x.alike(3, 0), -1);
        Check.due("no such", x.alike(-1, 0), -1);
        Check.due("no such", x.alike(0, -1), -1);
        looksMirror("1 2 3 4 5 6", 24, 0);
        looksMirror("0 0 0 0 0 0", 1, 1);
        looksMirror("1 0 0 0 0 0", 6, 1);
        looksMirror("1 1 2 2 3 3", 6, 1);
        looksMirror("1 2 3 3 3 3", 6, 1);
        looksMirror("1 2 3 4 5 5", 24, 1);
        looksMirror("1 1 2 3 4 5", 24, 1);
        looksMirror("1 2 1 2 1 2", 8, 1);
        looksMirror("1 1 0 0 0 0", 3, 1);
        looksMirror("1 0 1 0 0 0", 12, 1);
        Check.due("no such", x.looks(3), -1);
        Check.due("no such", x.looks(-1), -1);
        Check.due("no such", x.mirror(3), -1);
        Check.due("no such", x.mirror(-1), -1);
    }

    private static void looksMirror(String marks, int looks, int mirror) {
        TippedCrates x = Check.of("crate z 0 0 9 8 7 6 5 4;crate a 1 1 " + marks + ";");
        Check.due("looks of " + marks, x.looks(1), looks);
        Check.due("mirror of " + marks, x.mirror(1), mirror);
    }

    private static void tellAndForget() {
        TippedCrates x = new TippedCrates();
        Check.due("forget none", x.forget(), 0);
        Check.due("i 0", x.tell(0, 1, true), -1);
        Check.due("i 6", x.tell(6, 1, true), -1);
        Check.due("i -1", x.tell(-1, 1, true), -1);
        Check.due("mark 10", x.tell(1, 10, false), -1);
        Check.due("mark -1", x.tell(1, -1, false), -1);
        Check.due("none told", x.count(10), 0);
        for (int i = 0; i < 20; i++) {
            Check.due("told " + i, x.tell(1 + i % 5, i % 10, i % 2 == 0), i);
        }
        Check.due("one more", x.tell(1, 1, true), -1);
        Check.due("twenty", x.count(10), 20);
        Check.due("forgotten", x.forget(), 20);
        Check.due("none", x.count(10), 0);
        Check.due("from 0 on", x.tell(5, 9, true), 0);
    }

    private static void rows() {
        TippedCrates x = Check.of(LANE + A);
        Check.due("two rows of 2", x.rows(0, 0, 2, 0), 2);
        Check.due("the first: 11 by 4", x.rows(0, 0, 2, 1), 5);
        Check.due("three rows of 3", x.rows(0, 0, 3, 0), 3);
        Check.due("six rows of 4", x.rows(0, 0, 4, 0), 6);
        x.tell(2, 2, true);
        x.tell(4, 9, false);
        x.tell(1, 3, true);
        Check.due("none known", x.rows(0, 0, 2, 0), 2);
        Check.due("one known", x.rows(1, 0, 2, 0), 1);
        Check.due("the first: 13 by 4", x.rows(1, 0, 2, 1), 7);
        Check.due("the first: 131 by 4", x.rows(1, 0, 3, 1), 29);
        Check.due("not so, but behind more", x.rows(2, 0, 3, 0), 0);
        Check.due("not so", x.rows(2, 0, 4, 0), 2);
        Check.due("behind more than l", x.rows(1, 0, 1, 0), 0);
        Check.due("behind more than l", x.rows(1, 0, 1, 1), -2);
        Check.due("all known", x.rows(3, 0, 5, 0), 0);
        Check.due("all known", x.rows(3, 0, 5, 1), -2);
        x.forget();
        x.tell(2, 2, false);
        Check.due("not 2", x.rows(1, 0, 2, 1), 5);
        Check.due("not 2", x.rows(1, 0, 2, 0), 1);
        x.tip(0, 1);
        Check.due("from now on", x.rows(1, 0, 2, 0), 3);
        int[][] none = {{2, 0, 1, 0}, {-1, 0, 1, 0}, {0, 1, 1, 0}, {0, -1, 1, 0}, {0, 0, 0, 0}, {0, 0, 6, 0},
            {0, 0, 1, 2}, {0, 0, 1, -1}};
        for (int[] one : none) {
            Check.due("rows of no such", x.rows(one[0], one[1], one[2], one[3]), -1);
        }
        x = Check.of("yard 5 5;crate a 2 2 8 8 8 8 8 8;");
        Check.due("rows of 3", x.rows(0, 0, 3, 0), 60);
        Check.due("the first of all", x.rows(0, 0, 3, 1), 1);
        x = Check.of("yard 2 2;crate b 1 0 0 0 0 0 0 0;crate c 0 1 0 0 0 0 0 0;" + A);
        Check.due("stuck", x.rows(0, 2, 1, 0), 0);
        Check.due("stuck", x.rows(0, 2, 1, 1), -2);
        Check.due("stuck", x.listen(0, 2, 1), -2);
    }

    private static void listen() {
        TippedCrates x = Check.of(LANE + A);
        Check.due("the only one", x.listen(0, 0, 1), 1);
        Check.due("the second tells all", x.listen(0, 0, 2), 2);
        Check.due("of alike ones the first", x.listen(0, 0, 3), 2);
        x.tell(3, 4, true);
        Check.due("4 behind the third", x.listen(1, 0, 3), 2);
        x.tell(2, 2, true);
        Check.due("one row is left", x.listen(2, 0, 3), 1);
        Check.due("not yet known", x.listen(0, 0, 3), 2);
        x.tell(1, 9, true);
        Check.due("none fit", x.listen(3, 0, 3), -2);
        Check.due("behind more than l", x.listen(1, 0, 2), -2);
        TippedCrates y = Check.of("yard 5 5;crate a 2 2 0 9 0 9 9 9;");
        // Beneath behind the first: 9, 9, 9, 0; behind the second, of sixteen, 9 more seldom.
        Check.due("by marks 0 and 9", y.listen(0, 0, 1), 1);
        y.tell(1, 0, true);
        Check.due("the first is known", y.listen(1, 0, 2), 2);
        y = Check.of("yard 5 5;crate a 2 2 0 0 0 9 8 0;");
        Check.due("0 twice, 8, 9", y.listen(0, 0, 2), 1);
        int[][] none = {{4, 0, 1}, {-1, 0, 1}, {0, 1, 1}, {0, -1, 1}, {0, 0, 0}, {0, 0, 6}};
        for (int[] one : none) {
            Check.due("listen of no such", x.listen(one[0], one[1], one[2]), -1);
        }
    }

    /** Each as the first call of a new object, so that none lives on what another one left. */
    private static void atOnce() {
        String text = "yard 2 5;shut 1 0;shut 1 1;shut 1 2;shut 1 3;shut 1 4;crate b 0 4 1 0 0 0 0 0;" + A;
        Check.due("fewest", Check.of(text).fewest(1, 6, 4, -1), 3);
        Check.due("cheapest", Check.of(text).cheapest(1, 6), 3);
        Check.due("never", Check.of(text).never(1, 4), 0b1110111111);
        Check.due("nearest", Check.of(text).nearest(1, 4, 0), 6);
        Check.due("spots", Check.of(text).spots(1), 4);
        Check.due("round", Check.of(text).round(1, 0), 2);
        Check.due("richest", Check.of(text).richest(1, 2, 0), 6);
        Check.due("spell", Check.of(text).spell(1, 413, 3), 1);
        Check.due("game", Check.of(text).game(1, 3, 0), 3);
        Check.due("tops", Check.of(text).tops(1), 0b11110);
        Check.due("beside", Check.of(text).beside(1, 0), 3);
        Check.due("alike", Check.of(text).alike(1, 0), 0);
        Check.due("looks", Check.of(text).looks(1), 24);
        Check.due("mirror", Check.of(text).mirror(0), 1);
        Check.due("rows", Check.of(text).rows(0, 1, 3, 0), 3);
        Check.due("listen", Check.of(text).listen(0, 1, 3), 2);
    }

    private static void nothingHappens() {
        TippedCrates x = Check.of("yard 4 3;paint 1 1 4;crate b 3 2 0 1 2 3 4 5;" + A + "costs=left+top;");
        x.tip(1, 0);
        int[] ahead = new int[17];
        for (int what = 0; what < 17; what++) {
            ahead[what] = x.count(what);
        }
        x.fewest(1, 5, 3, 0);
        x.cheapest(1, 10);
        x.never(1, 3);
        x.nearest(1, 4, 0);
        x.spots(1);
        x.round(1, 1);
        x.richest(1, 40, 1);
        x.spell(1, 1234, 4);
        x.game(1, 6, 1);
        x.tops(1);
        x.beside(1, 0);
        x.alike(1, 0);
        x.looks(1);
        x.mirror(1);
        x.rows(0, 1, 5, 1);
        x.listen(0, 1, 5);
        for (int what = 0; what < 17; what++) {
            Check.due("still count(" + what + ")", x.count(what), ahead[what]);
        }
        int[] faces = {5, 6, 3, 4, 2, 1, 1, 1};
        for (int what = 0; what < 8; what++) {
            Check.due("still crate(1, " + what + ")", x.crate(1, what), faces[what]);
        }
    }
}
