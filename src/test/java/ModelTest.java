import java.nio.charset.StandardCharsets;
import java.util.Random;

/** Long runs of calls by seeds, whose every answer is compared with the model's. */
public final class ModelTest {
    private static final int CALLS = 500;
    private static final String[] NAMES = {"a", "bo", "crateful", "zz", "a", "yards"};
    private static final String[] VARS =
            {"left", "top", "flag", "over", "beneath", "tips", "minute", "which", "way"};
    private static int wrong = 0;
    private static int passed = 0;

    private final Random random;
    private TippedCrates program = new TippedCrates();
    private Model model = new Model();
    private final StringBuilder story = new StringBuilder();
    private int asked = 0;
    private boolean good = true;

    private ModelTest(long seed) {
        random = new Random(seed);
    }

    public static void main(String[] args) {
        int runs = args.length > 0 ? Integer.parseInt(args[0]) : 200;
        int first = args.length > 1 ? Integer.parseInt(args[1]) : 0;
        for (int seed = first; seed < first + runs && wrong < 5; seed++) {
            if (new ModelTest(seed).run()) {
                passed++;
            } else {
                wrong++;
                System.out.println("the run of seed " + seed + " went wrong");
            }
        }
        System.out.println("ModelTest: " + passed + " passed, " + wrong + " failed");
        if (wrong != 0) {
            System.exit(1);
        }
    }

    private boolean run() {
        while (asked < CALLS && good) {
            giveText(random.nextInt(5) == 0 ? spoiled(text()) : text());
            if (random.nextInt(4) == 0) {
                askAllCosts();
            }
            int calls = random.nextInt(120);
            for (int i = 0; i < calls && asked < CALLS && good; i++) {
                call(random.nextInt(40));
            }
        }
        return good;
    }

    private void same(String call, int got, int due) {
        asked++;
        story.append(call).append(" = ").append(due).append('\n');
        if (got != due && good) {
            good = false;
            System.out.println(story + call + " answered " + got + ", due is " + due);
        }
    }

    private void askAllCosts() {
        for (int flag = 0; flag < model.count(0) * model.count(1); flag++) {
            same("cheapest(0," + flag + ")", program.cheapest(0, flag), model.cheapest(0, flag));
        }
    }

    private void giveText(String text) {
        story.append("text: ").append(text).append('\n');
        byte[] bytes = text.getBytes(StandardCharsets.ISO_8859_1);
        for (int from = 0; from < bytes.length; from += 20) {
            int[] words = new int[5];
            for (int i = 0; i < 20; i++) {
                int one = from + i < bytes.length ? bytes[from + i] & 255 : 32;
                words[i / 4] = words[i / 4] << 8 | one;
            }
            same("feed", program.feed(words[0], words[1], words[2], words[3], words[4]),
                    model.feed(words[0], words[1], words[2], words[3], words[4]));
        }
        int more = (20 - bytes.length % 20) % 20;
        same("back(" + more + ")", program.back(more), model.back(more));
        same("read()", program.read(), model.read());
        same("place()", program.place(), model.place());
    }

    private int pick(int low, int high) {
        return low + random.nextInt(high - low + 1);
    }

    private String blank() {
        return new String[] {" ", "  ", "\n", "\t", "\r "}[random.nextInt(12) < 8 ? 0 : random.nextInt(5)];
    }

    private String text() {
        StringBuilder s = new StringBuilder();
        int wide = random.nextInt(8) == 0 ? 4 : pick(2, 5);
        int high = pick(2, 5);
        s.append("yard ").append(wide).append(blank()).append(high).append(";");
        int odd = random.nextInt(12) == 0 ? 1 : 0;
        for (int i = random.nextInt(4); i > 0; i--) {
            s.append("shut ").append(pick(0, wide - 1 + odd)).append(blank()).append(pick(0, high - 1)).append(";");
        }
        for (int i = random.nextInt(8 + 4 * odd); i > 0; i--) {
            s.append("paint ").append(pick(0, wide - 1)).append(' ').append(pick(0, high - 1)).append(' ')
                    .append(pick(0, 9 + odd)).append(" ;\n");
        }
        int crates = pick(0, 3 + odd);
        boolean twins = random.nextInt(4) == 0;
        for (int i = 0; i < crates; i++) {
            s.append("crate ").append(NAMES[odd == 1 ? random.nextInt(6) : i]).append(' ')
                    .append(pick(0, wide - 1)).append(' ').append(pick(0, high - 1));
            int most = random.nextInt(3) == 0 ? 2 : 9;
            for (int face = 0; face < 6; face++) {
                s.append(blank()).append(twins ? face / 2 : pick(0, most));
            }
            s.append(';');
        }
        for (String law : new String[] {"prints", "takes", "costs", "slips"}) {
            if (random.nextInt(3) > 0) {
                s.append(law).append(random.nextBoolean() ? "=" : " = ").append(law(law)).append(';');
            }
        }
        if (random.nextInt(3) > 0) {
            s.append("seed ").append(pick(0, 9999)).append(';').append(blank());
        }
        return s.length() > 1900 ? s.substring(0, 1900) : s.toString();
    }

    /** Costs 0 .. 99 without any order in them, so that dear short ways have cheap long ones beside them. */
    private String wildLaw() {
        StringBuilder s = new StringBuilder("(").append(pick(0, 99));
        for (String name : new String[] {"left", "top", "over", "beneath", "way", "flag"}) {
            s.append('+').append(name).append('*').append(pick(1, 999));
        }
        return s.append(')') + "-" + s + "/100*100";
    }

    private String law(String word) {
        if (word.equals("costs") && random.nextInt(3) == 0) {
            return wildLaw();
        }
        StringBuilder s = new StringBuilder();
        int ifs = random.nextInt(4) == 0 ? pick(0, 5) : random.nextInt(2);
        for (int i = 0; i < ifs; i++) {
            s.append("if ").append(sum(2)).append('<').append(sum(2)).append(" then ").append(sum(1))
                    .append(" else ");
        }
        s.append(sum(random.nextInt(30) == 0 ? 8 : 2));
        if (word.equals("slips")) {
            s.append("*10");
        }
        return s.toString();
    }

    private String sum(int depth) {
        StringBuilder s = new StringBuilder(product(depth));
        for (int i = random.nextInt(3); i > 0; i--) {
            s.append(random.nextBoolean() ? "+" : " - ").append(product(depth));
        }
        return s.toString();
    }

    private String product(int depth) {
        StringBuilder s = new StringBuilder(unit(depth));
        for (int i = random.nextInt(5) / 3; i > 0; i--) {
            s.append(random.nextBoolean() ? "*" : "/").append(unit(depth));
        }
        return s.toString();
    }

    private String unit(int depth) {
        int sort = random.nextInt(depth > 2 ? 12 : 10);
        if (depth > 0 && (sort < 2 || depth > 2 && sort < 11)) {
            return depth > 2 ? "(" + unit(depth - 1) + ")" : "(" + sum(depth - 1) + ")";
        }
        if (sort < 4) {
            return Integer.toString(random.nextInt(6) == 0 ? pick(0, 9999) : pick(0, 9));
        }
        return VARS[random.nextInt(VARS.length)];
    }

    private String spoiled(String text) {
        StringBuilder s = new StringBuilder(text);
        for (int i = pick(1, 2); i > 0; i--) {
            int at = random.nextInt(s.length());
            switch (random.nextInt(6)) {
                case 0:
                    s.setLength(at);
                    break;
                case 1:
                    s.deleteCharAt(at);
                    break;
                case 2:
                    s.insert(at, (char) random.nextInt(256));
                    break;
                case 3:
                    s.insert(at, new String[] {"12345", "abcdefghi", " if ", " ( ", " 9 ", "; ", " left "}
                            [random.nextInt(7)]);
                    break;
                case 4:
                    s.setCharAt(at, ";=+-*/<() azAZ09.".charAt(random.nextInt(17)));
                    break;
                default:
                    s.append("shut 0 0;".repeat(random.nextInt(10)));
                    break;
            }
            if (s.length() == 0) {
                s.append(' ');
            }
        }
        return s.length() > 2000 ? s.substring(0, 2000) : s.toString();
    }

    private int any(int low, int high) {
        int sort = random.nextInt(25);
        return sort == 0 ? low - 1 : sort == 1 ? high + 1 : sort == 2 && random.nextInt(6) == 0 ? random.nextInt()
                : pick(low, high);
    }

    private void call(int which) {
        int crate = any(0, 2);
        int flag = any(0, model.count(0) * model.count(1) - 1);
        int mark = any(0, 9);
        int what = any(0, 1);
        int n = any(0, 60);
        if (which < 18) {
            callThings(which, crate, flag, mark, n);
        } else {
            callWould(which, crate, flag, mark, what, n);
        }
    }

    private void callThings(int which, int crate, int flag, int mark, int n) {
        int way = any(0, 3);
        int slot = any(0, 2);
        int ask = any(0, 7);
        switch (which) {
            case 0: case 1: case 2: case 3:
                same("tip(" + crate + "," + way + ")", program.tip(crate, way), model.tip(crate, way));
                break;
            case 4:
                same("paint(" + flag + "," + mark + ")", program.paint(flag, mark) ? 1 : 0,
                        model.paint(flag, mark) ? 1 : 0);
                break;
            case 5:
                same("minutes(" + n + ")", program.minutes(n), model.minutes(n));
                break;
            case 6:
                same("undo()", program.undo() ? 1 : 0, model.undo() ? 1 : 0);
                break;
            case 7:
                same("hold(" + slot + ")", program.hold(slot) ? 1 : 0, model.hold(slot) ? 1 : 0);
                break;
            case 8:
                same("restore(" + slot + ")", program.restore(slot) ? 1 : 0, model.restore(slot) ? 1 : 0);
                break;
            case 9: case 10:
                int at = any(1, 5);
                boolean so = random.nextInt(3) == 0;
                same("tell(" + at + "," + mark + "," + so + ")", program.tell(at, mark, so), model.tell(at, mark, so));
                break;
            case 11:
                if (random.nextInt(4) == 0) {
                    same("forget()", program.forget(), model.forget());
                }
                break;
            case 12:
                same("flag(" + flag + "," + slot + ")", program.flag(flag, slot), model.flag(flag, slot));
                break;
            case 13:
                same("crate(" + crate + "," + ask + ")", program.crate(crate, ask), model.crate(crate, ask));
                break;
            case 14: case 15:
                int law = any(0, 4);
                same("tells(" + crate + "," + way + "," + law + ")", program.tells(crate, way, law),
                        model.tells(crate, way, law));
                break;
            default:
                for (int each = -1; each <= 17 && random.nextInt(19) > 0; each++) {
                    same("count(" + each + ")", program.count(each), model.count(each));
                }
                break;
        }
    }

    private void callWould(int which, int crate, int flag, int mark, int what, int n) {
        int other = any(0, 2);
        int few = any(1, 6);
        int told = model.count(10);
        int k = any(0, told);
        int l = any(1, 5);
        switch (which) {
            case 18: case 19:
                int i = any(-1, 8);
                same("fewest(" + crate + "," + flag + "," + mark + "," + i + ")", program.fewest(crate, flag, mark, i),
                        model.fewest(crate, flag, mark, i));
                break;
            case 20: case 21:
                same("cheapest(" + crate + "," + flag + ")", program.cheapest(crate, flag),
                        model.cheapest(crate, flag));
                break;
            case 22:
                same("never(" + crate + "," + mark + ")", program.never(crate, mark), model.never(crate, mark));
                break;
            case 23:
                same("nearest(" + crate + "," + mark + "," + what + ")", program.nearest(crate, mark, what),
                        model.nearest(crate, mark, what));
                break;
            case 24:
                same("spots(" + crate + ")", program.spots(crate), model.spots(crate));
                break;
            case 25:
                same("round(" + crate + "," + what + ")", program.round(crate, what), model.round(crate, what));
                break;
            case 26:
                int long40 = any(0, random.nextBoolean() ? 40 : 4);
                same("richest(" + crate + "," + long40 + "," + what + ")", program.richest(crate, long40, what),
                        model.richest(crate, long40, what));
                break;
            case 27:
                int number = number(crate, few);
                same("spell(" + crate + "," + number + "," + few + ")", program.spell(crate, number, few),
                        model.spell(crate, number, few));
                break;
            case 28:
                same("game(" + crate + "," + few + "," + what + ")", program.game(crate, few, what),
                        model.game(crate, few, what));
                break;
            case 29:
                same("tops(" + crate + ")", program.tops(crate), model.tops(crate));
                break;
            case 30:
                same("beside(" + crate + "," + other + ")", program.beside(crate, other), model.beside(crate, other));
                break;
            case 31:
                same("alike(" + crate + "," + other + ")", program.alike(crate, other), model.alike(crate, other));
                break;
            case 32:
                same("looks(" + crate + ")", program.looks(crate), model.looks(crate));
                break;
            case 33:
                same("mirror(" + crate + ")", program.mirror(crate), model.mirror(crate));
                break;
            default:
                callLater(which, crate, flag, mark, what, n, k, l);
                break;
        }
    }

    /** A number that the crate can print, more often than not. */
    private int number(int crate, int n) {
        int number = 0;
        for (int i = 0; i < n; i++) {
            int face = model.crate(crate, random.nextInt(6));
            number = number * 10 + Math.max(0, face);
        }
        return random.nextInt(8) == 0 ? random.nextInt(2000000) - 1000 : number;
    }

    private void callLater(int which, int crate, int flag, int mark, int what, int n, int k, int l) {
        int seeds = any(1, 20);
        switch (which) {
            case 34:
                same("then(" + crate + "," + n + "," + what + ")", program.then(crate, n, what),
                        model.then(crate, n, what));
                break;
            case 35:
                same("flagIn(" + flag + "," + n + ")", program.flagIn(flag, n), model.flagIn(flag, n));
                break;
            case 36:
                same("paidIn(" + n + ")", program.paidIn(n), model.paidIn(n));
                break;
            case 37:
                same("year(" + crate + "," + mark + "," + n + "," + seeds + ")", program.year(crate, mark, n, seeds),
                        model.year(crate, mark, n, seeds));
                break;
            case 38:
                same("rows(" + k + "," + crate + "," + l + "," + what + ")", program.rows(k, crate, l, what),
                        model.rows(k, crate, l, what));
                break;
            default:
                same("listen(" + k + "," + crate + "," + l + ")", program.listen(k, crate, l),
                        model.listen(k, crate, l));
                break;
        }
    }
}
