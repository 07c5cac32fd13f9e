import java.util.ArrayDeque;
import java.util.ArrayList;
import java.util.Arrays;
import java.util.HashMap;
import java.util.HashSet;
import java.util.LinkedHashMap;
import java.util.List;
import java.util.Map;
import java.util.Set;

/** A slow second reading of the document, by other means than the program's, to compare with it. */
final class Model {
    static final int NONE = -1;
    private static final String[] WAY_CYCLES = {"tlbr", "tfbn", "trbl", "tnbf"};
    private static final String FACES = "tbfnlr";
    private static final Set<String> WORDS = Set.of("yard", "shut", "paint", "crate", "prints", "takes", "costs",
            "slips", "seed", "if", "then", "else", "left", "top", "flag", "over", "beneath", "tips", "minute",
            "which", "way");
    private static final Set<String> VARS =
            Set.of("left", "top", "flag", "over", "beneath", "tips", "minute", "which", "way");

    static final class Fault extends RuntimeException {
        final int number;
        final int at;

        Fault(int number, int at) {
            this.number = number;
            this.at = at;
        }
    }

    static final class ByNought extends RuntimeException {
    }

    interface Sum {
        int of(Map<String, Integer> vars);
    }

    record Token(String text, int at, boolean good) {
        boolean isInt() {
            return good && Character.isDigit(text.charAt(0));
        }

        boolean isName() {
            return good && Character.isLetter(text.charAt(0)) && !WORDS.contains(text);
        }
    }

    static final class Text {
        int wide = 4;
        int high = 4;
        int seed;
        List<int[]> shut = new ArrayList<>();
        List<int[]> paint = new ArrayList<>();
        List<int[]> crates = new ArrayList<>();
        List<String> names = new ArrayList<>();
        Map<String, Sum> laws = new HashMap<>(
                Map.of("prints", v -> 1, "takes", v -> 0, "costs", v -> 1, "slips", v -> 0));
    }

    /** A crate is a map from a face's letter to its mark; x and y. */
    static final class Crate {
        Map<Character, Integer> face = new HashMap<>();
        int x;
        int y;
        int tips;

        Crate copy() {
            Crate other = new Crate();
            other.face.putAll(face);
            other.x = x;
            other.y = y;
            other.tips = tips;
            return other;
        }
    }

    static final class World {
        int[][] marks;
        List<Crate> crates = new ArrayList<>();
        int minute;
        int paid;

        World copy() {
            World other = new World();
            other.marks = new int[marks.length][];
            for (int y = 0; y < marks.length; y++) {
                other.marks[y] = marks[y].clone();
            }
            for (Crate crate : crates) {
                other.crates.add(crate.copy());
            }
            other.minute = minute;
            other.paid = paid;
            return other;
        }
    }

    private final StringBuilder tape = new StringBuilder();
    private Text text = new Text();
    private World now;
    private final ArrayDeque<World> undo = new ArrayDeque<>();
    private final World[] slots = new World[3];
    private final List<int[]> told = new ArrayList<>();
    private int place = NONE;

    Model() {
        begin();
    }

    private void begin() {
        now = new World();
        now.marks = new int[text.high][text.wide];
        for (int[] p : text.paint) {
            now.marks[p[1]][p[0]] = p[2];
        }
        for (int[] c : text.crates) {
            Crate crate = new Crate();
            crate.x = c[0];
            crate.y = c[1];
            for (int i = 0; i < 6; i++) {
                crate.face.put(FACES.charAt(i), c[2 + i]);
            }
            now.crates.add(crate);
        }
        undo.clear();
        told.clear();
        Arrays.fill(slots, null);
    }

    // ---- texts

    private static List<Token> tokens(String s) {
        List<Token> all = new ArrayList<>();
        int i = 0;
        while (i < s.length()) {
            if ("\t\n\r ".indexOf(s.charAt(i)) >= 0) {
                i++;
                continue;
            }
            int j = i;
            boolean good;
            if (s.substring(i, i + 1).matches("[a-z]")) {
                while (j < s.length() && s.substring(j, j + 1).matches("[a-z]")) {
                    j++;
                }
                good = j - i <= 8;
            } else if (s.substring(i, i + 1).matches("[0-9]")) {
                while (j < s.length() && s.substring(j, j + 1).matches("[0-9]")) {
                    j++;
                }
                good = j - i <= 4;
            } else {
                j++;
                good = ";=+-*/<()".contains(s.substring(i, j));
            }
            all.add(new Token(s.substring(i, j), i, good));
            i = j;
        }
        return all;
    }

    private static final class Parser {
        final List<Token> tokens;
        final int length;
        int at;
        final Text text = new Text();
        final List<Fault> later = new ArrayList<>();

        Parser(String s) {
            tokens = tokens(s);
            length = s.length();
        }

        boolean sees(String word) {
            return at < tokens.size() && tokens.get(at).good() && tokens.get(at).text().equals(word);
        }

        int here() {
            return at < tokens.size() ? tokens.get(at).at() : length;
        }

        Token next(boolean fits) {
            if (!fits) {
                throw new Fault(1, here());
            }
            if (at >= 400) {
                throw new Fault(2, here());
            }
            return tokens.get(at++);
        }

        Token sign(String word) {
            return next(sees(word));
        }

        int number(int low, int high) {
            Token token = next(at < tokens.size() && tokens.get(at).isInt());
            int value = Integer.parseInt(token.text());
            if (value < low || value > high) {
                later.add(new Fault(5, token.at()));
            }
            return value;
        }

        int[] numbers(int... ranges) {
            int[] all = new int[ranges.length];
            for (int i = 0; i < ranges.length; i++) {
                all[i] = number(0, ranges[i]);
            }
            return all;
        }

        Text parse() {
            while (at < tokens.size()) {
                tellOne();
            }
            later.sort((p, q) -> p.at != q.at ? p.at - q.at : p.number - q.number);
            if (!later.isEmpty()) {
                throw later.get(0);
            }
            if (!inYard()) {
                throw new Fault(6, length);
            }
            return text;
        }

        void room(int have, int most) {
            if (have >= most) {
                throw new Fault(2, here());
            }
        }

        void tellOne() {
            if (sees("yard")) {
                sign("yard");
                text.wide = number(2, 5);
                text.high = number(2, 5);
            } else if (sees("shut")) {
                room(text.shut.size(), 8);
                sign("shut");
                text.shut.add(numbers(4, 4));
            } else if (sees("paint")) {
                room(text.paint.size(), 10);
                sign("paint");
                text.paint.add(numbers(4, 4, 9));
            } else if (sees("crate")) {
                room(text.crates.size(), 3);
                sign("crate");
                Token name = next(at < tokens.size() && tokens.get(at).isName());
                if (text.names.contains(name.text())) {
                    later.add(new Fault(3, name.at()));
                }
                text.names.add(name.text());
                text.crates.add(numbers(4, 4, 9, 9, 9, 9, 9, 9));
            } else if (sees("seed")) {
                sign("seed");
                text.seed = number(0, 9999);
            } else if (sees("prints") || sees("takes") || sees("costs") || sees("slips")) {
                String word = next(true).text();
                text.laws.put(word, law());
            } else {
                throw new Fault(1, here());
            }
            sign(";");
        }

        Sum law() {
            sign("=");
            List<Sum[]> ifs = new ArrayList<>();
            while (sees("if")) {
                room(ifs.size(), 4);
                sign("if");
                Sum less = sum(0);
                sign("<");
                Sum more = sum(0);
                sign("then");
                Sum so = sum(0);
                sign("else");
                ifs.add(new Sum[] {less, more, so});
            }
            Sum last = sum(0);
            return vars -> {
                try {
                    for (Sum[] one : ifs) {
                        if (one[0].of(vars) < one[1].of(vars)) {
                            return one[2].of(vars);
                        }
                    }
                    return last.of(vars);
                } catch (ByNought e) {
                    return 0;
                }
            };
        }

        Sum sum(int depth) {
            Sum left = product(depth);
            while (sees("+") || sees("-")) {
                boolean plus = next(true).text().equals("+");
                Sum one = left;
                Sum other = product(depth);
                left = plus ? v -> one.of(v) + other.of(v) : v -> one.of(v) - other.of(v);
            }
            return left;
        }

        Sum product(int depth) {
            Sum left = unit(depth);
            while (sees("*") || sees("/")) {
                boolean times = next(true).text().equals("*");
                Sum one = left;
                Sum other = unit(depth);
                left = times ? v -> one.of(v) * other.of(v) : v -> {
                    int up = one.of(v);
                    int down = other.of(v);
                    if (down == 0) {
                        throw new ByNought();
                    }
                    return up / down;
                };
            }
            return left;
        }

        Sum unit(int depth) {
            if (at < tokens.size() && tokens.get(at).isInt()) {
                int value = Integer.parseInt(next(true).text());
                return v -> value;
            }
            if (at < tokens.size() && VARS.contains(tokens.get(at).text())) {
                String name = next(true).text();
                return v -> v.get(name);
            }
            if (sees("(")) {
                room(depth, 6);
                sign("(");
                Sum inner = sum(depth + 1);
                sign(")");
                return inner;
            }
            throw new Fault(1, here());
        }

        boolean inYard() {
            Set<String> shut = new HashSet<>();
            for (int[] p : text.shut) {
                shut.add(p[0] + "," + p[1]);
                if (p[0] >= text.wide || p[1] >= text.high) {
                    return false;
                }
            }
            for (int[] p : text.paint) {
                if (p[0] >= text.wide || p[1] >= text.high) {
                    return false;
                }
            }
            for (int[] p : text.crates) {
                if (p[0] >= text.wide || p[1] >= text.high || !shut.add(p[0] + "," + p[1])) {
                    return false;
                }
            }
            return true;
        }
    }

    int feed(int a, int b, int c, int d, int e) {
        if (tape.length() + 20 > 2000) {
            return NONE;
        }
        for (int word : new int[] {a, b, c, d, e}) {
            tape.append((char) (word >>> 24)).append((char) (word >> 16 & 255));
            tape.append((char) (word >> 8 & 255)).append((char) (word & 255));
        }
        return tape.length();
    }

    int back(int n) {
        if (n < 0 || n > tape.length()) {
            return NONE;
        }
        tape.setLength(tape.length() - n);
        return tape.length();
    }

    int read() {
        String s = tape.toString();
        tape.setLength(0);
        place = NONE;
        try {
            text = new Parser(s).parse();
        } catch (Fault fault) {
            place = fault.at;
            return fault.number;
        }
        begin();
        return 0;
    }

    int place() {
        return place;
    }

    // ---- what goes on

    private boolean isFlag(int flag) {
        return flag >= 0 && flag < text.wide * text.high;
    }

    private boolean isCrate(int crate) {
        return crate >= 0 && crate < now.crates.size();
    }

    private static boolean isMark(int mark) {
        return mark >= 0 && mark <= 9;
    }

    private boolean shut(int x, int y) {
        for (int[] p : text.shut) {
            if (p[0] == x && p[1] == y) {
                return true;
            }
        }
        return false;
    }

    private static int crateOn(World w, int x, int y) {
        for (int i = 0; i < w.crates.size(); i++) {
            if (w.crates.get(i).x == x && w.crates.get(i).y == y) {
                return i;
            }
        }
        return -2;
    }

    private static int dx(int way) {
        return way == 0 ? 1 : way == 2 ? -1 : 0;
    }

    private static int dy(int way) {
        return way == 1 ? 1 : way == 3 ? -1 : 0;
    }

    private boolean inYard(int x, int y) {
        return x >= 0 && y >= 0 && x < text.wide && y < text.high;
    }

    private boolean canTip(World w, int crate, int way) {
        int x = w.crates.get(crate).x + dx(way);
        int y = w.crates.get(crate).y + dy(way);
        return inYard(x, y) && !shut(x, y) && crateOn(w, x, y) == -2;
    }

    /** The letters of a cycle: each place gets what stood at the letter behind it. */
    private static <T> Map<Character, T> turned(Map<Character, T> face, int way) {
        Map<Character, T> behind = new HashMap<>(face);
        String cycle = WAY_CYCLES[way];
        for (int i = 0; i < 4; i++) {
            behind.put(cycle.charAt(i), face.get(cycle.charAt((i + 1) % 4)));
        }
        return behind;
    }

    private int law(World w, int crate, int way, String law) {
        Crate c = w.crates.get(crate);
        int x = c.x + dx(way);
        int y = c.y + dy(way);
        Map<Character, Integer> behind = turned(c.face, way);
        Map<String, Integer> vars = new HashMap<>();
        vars.put("left", x);
        vars.put("top", y);
        vars.put("flag", inYard(x, y) ? w.marks[y][x] : 0);
        vars.put("over", behind.get('t'));
        vars.put("beneath", behind.get('b'));
        vars.put("tips", c.tips);
        vars.put("minute", w.minute);
        vars.put("which", crate);
        vars.put("way", way);
        int raw = text.laws.get(law).of(vars);
        int most = law.equals("costs") ? 99 : law.equals("slips") ? 100 : Integer.MAX_VALUE;
        int least = law.equals("costs") || law.equals("slips") ? 0 : Integer.MIN_VALUE;
        return Math.max(least, Math.min(most, raw));
    }

    private void tipOver(World w, int crate, int way) {
        int cost = law(w, crate, way, "costs");
        int prints = law(w, crate, way, "prints");
        int takes = law(w, crate, way, "takes");
        Crate c = w.crates.get(crate);
        c.x += dx(way);
        c.y += dy(way);
        c.face = turned(c.face, way);
        c.tips++;
        w.paid += cost;
        if (prints > 0) {
            w.marks[c.y][c.x] = c.face.get('b');
        } else if (takes > 0) {
            c.face.put('b', w.marks[c.y][c.x]);
        }
    }

    static int lot(int n, int seed, int which) {
        long h = seed & 0xffffffffL;
        for (long it : new long[] {215, which & 0xffffffffL}) {
            h = ((h ^ it) * 1103515245L + 12345L) & 0xffffffffL;
            h = h ^ (h >> 15);
        }
        return (int) ((h >> 1) % n);
    }

    private void minute(World w, int seed) {
        for (int i = 0; i < w.crates.size(); i++) {
            int way = lot(4, seed, 8 * w.minute + i);
            if (canTip(w, i, way)) {
                tipOver(w, i, way);
            }
            if (lot(100, seed, 100000 + 8 * w.minute + i) < law(w, i, way, "slips") && canTip(w, i, way)) {
                tipOver(w, i, way);
            }
        }
        w.minute++;
    }

    private World in(int n, int seed) {
        World w = now.copy();
        for (int i = 0; i < n; i++) {
            minute(w, seed);
        }
        return w;
    }

    private void done() {
        undo.addLast(now.copy());
        if (undo.size() > 40) {
            undo.removeFirst();
        }
    }

    int flag(int flag, int what) {
        if (!isFlag(flag)) {
            return NONE;
        }
        int x = flag % text.wide;
        int y = flag / text.wide;
        return what == 0 ? now.marks[y][x] : what == 1 ? (shut(x, y) ? 1 : 0) : what == 2 ? crateOn(now, x, y) : NONE;
    }

    private int flagOf(Crate c) {
        return text.wide * c.y + c.x;
    }

    int crate(int crate, int what) {
        if (!isCrate(crate) || what < 0 || what > 7) {
            return NONE;
        }
        Crate c = now.crates.get(crate);
        return what == 7 ? c.tips : what == 6 ? flagOf(c) : c.face.get(FACES.charAt(what));
    }

    int tells(int crate, int way, int what) {
        if (!isCrate(crate) || way < 0 || way > 3 || what < 0 || what > 4) {
            return NONE;
        }
        if (what == 0) {
            return canTip(now, crate, way) ? 1 : 0;
        }
        int raw = law(now, crate, way, new String[] {"", "costs", "prints", "takes", "slips"}[what]);
        return what == 1 || what == 4 ? raw : raw > 0 ? 1 : 0;
    }

    int tip(int crate, int way) {
        if (!isCrate(crate) || way < 0 || way > 3 || !canTip(now, crate, way)) {
            return NONE;
        }
        done();
        tipOver(now, crate, way);
        return flagOf(now.crates.get(crate));
    }

    boolean paint(int flag, int mark) {
        if (!isFlag(flag) || !isMark(mark)) {
            return false;
        }
        int x = flag % text.wide;
        int y = flag / text.wide;
        if (shut(x, y) || crateOn(now, x, y) != -2 || now.marks[y][x] == mark) {
            return false;
        }
        done();
        now.marks[y][x] = mark;
        return true;
    }

    int minutes(int n) {
        if (n < 0 || n > 60) {
            return NONE;
        }
        if (n > 0) {
            done();
            now = in(n, text.seed);
        }
        return now.minute;
    }

    boolean undo() {
        if (undo.isEmpty()) {
            return false;
        }
        now = undo.removeLast();
        return true;
    }

    // ---- what would be: a standing is a flag and which face stands at each place

    private record Standing(int flag, String lie) {
    }

    private static final class Would {
        Standing start;
        Map<Character, Integer> face;
        Map<Standing, Standing[]> nexts = new LinkedHashMap<>();

        int mark(Standing s, int place) {
            return face.get(s.lie.charAt(place));
        }
    }

    private static String lieBehind(String lie, int way) {
        Map<Character, Character> places = new HashMap<>();
        for (int i = 0; i < 6; i++) {
            places.put(FACES.charAt(i), lie.charAt(i));
        }
        Map<Character, Character> behind = turned(places, way);
        StringBuilder all = new StringBuilder();
        for (int i = 0; i < 6; i++) {
            all.append((char) behind.get(FACES.charAt(i)));
        }
        return all.toString();
    }

    private Would would(int crate) {
        Would would = new Would();
        would.face = now.crates.get(crate).face;
        would.start = new Standing(flagOf(now.crates.get(crate)), FACES);
        List<Standing> todo = new ArrayList<>(List.of(would.start));
        for (int i = 0; i < todo.size(); i++) {
            Standing s = todo.get(i);
            if (would.nexts.containsKey(s)) {
                continue;
            }
            Standing[] nexts = new Standing[4];
            for (int way = 0; way < 4; way++) {
                int x = s.flag % text.wide + dx(way);
                int y = s.flag / text.wide + dy(way);
                int there = inYard(x, y) ? crateOn(now, x, y) : NONE;
                if (inYard(x, y) && !shut(x, y) && (there == -2 || there == crate)) {
                    nexts[way] = new Standing(text.wide * y + x, lieBehind(s.lie, way));
                    todo.add(nexts[way]);
                }
            }
            would.nexts.put(s, nexts);
        }
        return would;
    }

    /** Fewest tippings from each standing to one that a test holds of, by going round until nothing changes. */
    private static Map<Standing, Integer> toGoal(Would w, java.util.function.Predicate<Standing> goal) {
        Map<Standing, Integer> far = new HashMap<>();
        for (Standing s : w.nexts.keySet()) {
            if (goal.test(s)) {
                far.put(s, 0);
            }
        }
        boolean changed = true;
        while (changed) {
            changed = false;
            for (Standing s : w.nexts.keySet()) {
                for (Standing next : w.nexts.get(s)) {
                    if (next != null && far.containsKey(next)
                            && far.get(next) + 1 < far.getOrDefault(s, Integer.MAX_VALUE)) {
                        far.put(s, far.get(next) + 1);
                        changed = true;
                    }
                }
            }
        }
        return far;
    }

    int fewest(int crate, int flag, int mark, int i) {
        if (!isCrate(crate) || !isFlag(flag) || !isMark(mark)) {
            return NONE;
        }
        Would w = would(crate);
        Map<Standing, Integer> far = toGoal(w, s -> s.flag == flag && w.mark(s, 0) == mark);
        Integer all = far.get(w.start);
        if (all == null) {
            return -2;
        }
        if (i == NONE) {
            return all;
        }
        if (i < 0 || i >= all) {
            return NONE;
        }
        Standing s = w.start;
        for (int done = 0; ; done++) {
            for (int way = 0; way < 4; way++) {
                Standing next = w.nexts.get(s)[way];
                if (next != null && far.get(next) == all - done - 1) {
                    if (done == i) {
                        return way;
                    }
                    s = next;
                    break;
                }
            }
        }
    }

    private int[] costsFrom(Would w, int crate, Standing s) {
        World there = now.copy();
        Crate c = there.crates.get(crate);
        c.x = s.flag % text.wide;
        c.y = s.flag / text.wide;
        for (int place = 0; place < 6; place++) {
            c.face.put(FACES.charAt(place), w.mark(s, place));
        }
        int[] costs = new int[4];
        for (int way = 0; way < 4; way++) {
            costs[way] = law(there, crate, way, "costs");
        }
        return costs;
    }

    int cheapest(int crate, int flag) {
        if (!isCrate(crate) || !isFlag(flag)) {
            return NONE;
        }
        Would w = would(crate);
        Map<Standing, int[]> costs = new HashMap<>();
        for (Standing s : w.nexts.keySet()) {
            costs.put(s, costsFrom(w, crate, s));
        }
        Map<Standing, Integer> paid = new HashMap<>();
        paid.put(w.start, 0);
        boolean changed = true;
        while (changed) {
            changed = false;
            for (Standing s : w.nexts.keySet()) {
                for (int way = 0; way < 4 && paid.containsKey(s); way++) {
                    Standing next = w.nexts.get(s)[way];
                    int cost = paid.get(s) + costs.get(s)[way];
                    if (next != null && cost < paid.getOrDefault(next, Integer.MAX_VALUE)) {
                        paid.put(next, cost);
                        changed = true;
                    }
                }
            }
        }
        int least = Integer.MAX_VALUE;
        for (Map.Entry<Standing, Integer> one : paid.entrySet()) {
            if (one.getKey().flag == flag) {
                least = Math.min(least, one.getValue());
            }
        }
        return least == Integer.MAX_VALUE ? -2 : least;
    }

    int never(int crate, int mark) {
        if (!isCrate(crate) || !isMark(mark)) {
            return NONE;
        }
        int bits = 0;
        for (int flag = 0; flag < text.wide * text.high; flag++) {
            if (fewest(crate, flag, mark, NONE) == -2) {
                bits |= 1 << flag;
            }
        }
        return bits;
    }

    int nearest(int crate, int mark, int what) {
        if (!isCrate(crate) || !isMark(mark) || what < 0 || what > 1) {
            return NONE;
        }
        int best = -2;
        int far = -2;
        for (int flag = 0; flag < text.wide * text.high; flag++) {
            int fewest = fewest(crate, flag, mark, NONE);
            if (fewest >= 0 && (far == -2 || fewest < far)) {
                best = flag;
                far = fewest;
            }
        }
        return what == 0 ? best : far;
    }

    int spots(int crate) {
        return isCrate(crate) ? would(crate).nexts.size() : NONE;
    }

    int round(int crate, int what) {
        if (!isCrate(crate) || what < 0 || what > 1) {
            return NONE;
        }
        Would w = would(crate);
        Map<Standing, Integer> far = toGoal(w,
                s -> what == 0 ? s.equals(w.start) : s.flag == w.start.flag && !s.lie.equals(w.start.lie));
        int least = -2;
        for (Standing next : w.nexts.get(w.start)) {
            if (next != null && far.containsKey(next) && (least == -2 || far.get(next) + 1 < least)) {
                least = far.get(next) + 1;
            }
        }
        return least;
    }

    /** Most marks of n tippings from a standing on; null if n can not be. */
    private static Integer most(Would w, Standing s, int n, Map<String, Integer> known) {
        if (n == 0) {
            return 0;
        }
        String key = n + ":" + s.flag + ":" + s.lie;
        if (!known.containsKey(key)) {
            Integer best = null;
            for (Standing next : w.nexts.get(s)) {
                Integer rest = next == null ? null : most(w, next, n - 1, known);
                if (rest != null && (best == null || rest + w.mark(next, 1) > best)) {
                    best = rest + w.mark(next, 1);
                }
            }
            known.put(key, best);
        }
        return known.get(key);
    }

    int richest(int crate, int n, int what) {
        if (!isCrate(crate) || n < 0 || n > 40 || what < 0 || what > 1) {
            return NONE;
        }
        if (n == 0) {
            return what == 0 ? 0 : -2;
        }
        Would w = would(crate);
        Map<String, Integer> known = new HashMap<>();
        Integer most = most(w, w.start, n, known);
        if (most == null) {
            return -2;
        }
        if (what == 0) {
            return most;
        }
        for (int way = 0; way < 4; way++) {
            Standing next = w.nexts.get(w.start)[way];
            Integer rest = next == null ? null : most(w, next, n - 1, known);
            if (rest != null && rest + w.mark(next, 1) == most) {
                return way;
            }
        }
        return -2;
    }

    /** The marks beneath behind each of n ways, which a number tells by 4; null if they can not be. */
    private static int[] beneaths(Would w, int n, int digits) {
        int[] marks = new int[n];
        Standing s = w.start;
        for (int i = 0; i < n; i++) {
            s = w.nexts.get(s)[digits >> 2 * (n - 1 - i) & 3];
            if (s == null) {
                return null;
            }
            marks[i] = w.mark(s, 1);
        }
        return marks;
    }

    int spell(int crate, int number, int n) {
        if (!isCrate(crate) || n < 1 || n > 6 || number < 0 || Integer.toString(number).length() > n) {
            return NONE;
        }
        String wanted = String.format("%0" + n + "d", number);
        Would w = would(crate);
        int ways = 0;
        for (int digits = 0; digits < 1 << 2 * n; digits++) {
            int[] marks = beneaths(w, n, digits);
            StringBuilder printed = new StringBuilder();
            for (int i = 0; marks != null && i < n; i++) {
                printed.append(marks[i]);
            }
            ways += printed.toString().equals(wanted) ? 1 : 0;
        }
        return ways;
    }

    private static int value(Would w, Standing s, int left, int turn) {
        List<Integer> ends = new ArrayList<>();
        if (left > 0) {
            for (Standing next : w.nexts.get(s)) {
                if (next != null) {
                    ends.add(value(w, next, left - 1, turn + 1));
                }
            }
        }
        if (ends.isEmpty()) {
            return w.mark(s, 0);
        }
        return turn % 2 == 0 ? java.util.Collections.max(ends) : java.util.Collections.min(ends);
    }

    int game(int crate, int n, int what) {
        if (!isCrate(crate) || n < 1 || n > 6 || what < 0 || what > 1) {
            return NONE;
        }
        Would w = would(crate);
        int value = value(w, w.start, n, 0);
        if (what == 0) {
            return value;
        }
        for (int way = 0; way < 4; way++) {
            Standing next = w.nexts.get(w.start)[way];
            if (next != null && value(w, next, n - 1, 1) == value) {
                return way;
            }
        }
        return -2;
    }

    int tops(int crate) {
        if (!isCrate(crate)) {
            return NONE;
        }
        Would w = would(crate);
        int bits = 0;
        for (Standing s : w.nexts.keySet()) {
            bits |= 1 << w.mark(s, 0);
        }
        return bits;
    }

    int beside(int crate, int other) {
        if (!isCrate(crate) || !isCrate(other) || crate == other) {
            return NONE;
        }
        Would w = would(crate);
        Crate o = now.crates.get(other);
        Integer far = toGoal(w, s -> Math.abs(s.flag % text.wide - o.x) + Math.abs(s.flag / text.wide - o.y) == 1)
                .get(w.start);
        return far == null ? -2 : far;
    }

    private Set<String> looksOf(int crate) {
        Set<String> lies = new HashSet<>(Set.of(FACES));
        for (int i = 0; i < 24; i++) {
            for (String lie : new ArrayList<>(lies)) {
                for (int way = 0; way < 4; way++) {
                    lies.add(lieBehind(lie, way));
                }
            }
        }
        Set<String> looks = new HashSet<>();
        for (String lie : lies) {
            looks.add(look(crate, lie));
        }
        return looks;
    }

    private String look(int crate, String lie) {
        StringBuilder all = new StringBuilder();
        for (char face : lie.toCharArray()) {
            all.append(now.crates.get(crate).face.get(face));
        }
        return all.toString();
    }

    int alike(int crate, int other) {
        if (!isCrate(crate) || !isCrate(other)) {
            return NONE;
        }
        return looksOf(crate).contains(look(other, FACES)) ? 1 : 0;
    }

    int looks(int crate) {
        return isCrate(crate) ? looksOf(crate).size() : NONE;
    }

    int mirror(int crate) {
        return isCrate(crate) ? looksOf(crate).contains(look(crate, "tbfnrl")) ? 1 : 0 : NONE;
    }

    int then(int crate, int n, int what) {
        if (!isCrate(crate) || n < 0 || n > 60 || what < 0 || what > 1) {
            return NONE;
        }
        Crate c = in(n, text.seed).crates.get(crate);
        return what == 0 ? flagOf(c) : c.face.get('t');
    }

    int flagIn(int flag, int n) {
        if (!isFlag(flag) || n < 0 || n > 60) {
            return NONE;
        }
        return in(n, text.seed).marks[flag / text.wide][flag % text.wide];
    }

    int paidIn(int n) {
        return n < 0 || n > 60 ? NONE : in(n, text.seed).paid;
    }

    int year(int crate, int mark, int n, int s) {
        if (!isCrate(crate) || !isMark(mark) || n < 0 || n > 60 || s < 1 || s > 20) {
            return NONE;
        }
        int times = 0;
        for (int seed = text.seed; seed < text.seed + s; seed++) {
            times += in(n, seed).crates.get(crate).face.get('t') == mark ? 1 : 0;
        }
        return times;
    }

    int tell(int i, int mark, boolean so) {
        if (i < 1 || i > 5 || !isMark(mark) || told.size() == 20) {
            return NONE;
        }
        told.add(new int[] {i, mark, so ? 1 : 0});
        return told.size() - 1;
    }

    int forget() {
        int were = told.size();
        told.clear();
        return were;
    }

    private Map<Integer, int[]> fitting(int k, int crate, int l) {
        Would w = would(crate);
        Map<Integer, int[]> rows = new LinkedHashMap<>();
        for (int digits = 0; digits < 1 << 2 * l; digits++) {
            int[] marks = beneaths(w, l, digits);
            boolean fits = marks != null;
            for (int[] t : told.subList(0, k)) {
                fits = fits && t[0] <= l && (marks[t[0] - 1] == t[1]) == (t[2] == 1);
            }
            if (fits) {
                rows.put(digits, marks);
            }
        }
        return rows;
    }

    int rows(int k, int crate, int l, int what) {
        if (k < 0 || k > told.size() || !isCrate(crate) || l < 1 || l > 5 || what < 0 || what > 1) {
            return NONE;
        }
        Map<Integer, int[]> rows = fitting(k, crate, l);
        return what == 0 ? rows.size() : rows.isEmpty() ? -2 : rows.keySet().iterator().next();
    }

    int listen(int k, int crate, int l) {
        if (k < 0 || k > told.size() || !isCrate(crate) || l < 1 || l > 5) {
            return NONE;
        }
        Map<Integer, int[]> rows = fitting(k, crate, l);
        int best = -2;
        long least = Long.MAX_VALUE;
        for (int i = 0; i < l && !rows.isEmpty(); i++) {
            long worst = 0;
            for (int mark = 0; mark < 10; mark++) {
                int at = i;
                int m = mark;
                worst = Math.max(worst, rows.values().stream().filter(marks -> marks[at] == m).count());
            }
            if (worst < least) {
                least = worst;
                best = i + 1;
            }
        }
        return best;
    }

    boolean hold(int slot) {
        if (slot < 0 || slot > 2) {
            return false;
        }
        slots[slot] = now.copy();
        return true;
    }

    boolean restore(int slot) {
        if (slot < 0 || slot > 2 || slots[slot] == null) {
            return false;
        }
        now = slots[slot].copy();
        undo.clear();
        return true;
    }

    int count(int what) {
        int sum = 0;
        int bits = 0;
        int most = 0;
        int shut = 0;
        int where = 0;
        for (int flag = 0; flag < text.wide * text.high; flag++) {
            int mark = flag(flag, 0);
            sum += mark;
            most = Math.max(most, mark);
            bits |= mark > 0 ? 1 << flag : 0;
            shut |= flag(flag, 1) << flag;
            where |= flag(flag, 2) != -2 ? 1 << flag : 0;
        }
        int tips = 0;
        int tops = 0;
        int stuck = 0;
        for (int i = 0; i < now.crates.size(); i++) {
            tips += crate(i, 7);
            tops += crate(i, 0);
            boolean can = false;
            for (int way = 0; way < 4; way++) {
                can = can || canTip(now, i, way);
            }
            stuck |= can ? 0 : 1 << i;
        }
        int held = 0;
        for (World slot : slots) {
            held += slot != null ? 1 : 0;
        }
        int[] all = {text.wide, text.high, now.crates.size(), now.minute, now.paid, shut, bits, sum, tape.length(),
            undo.size(), told.size(), held, tips, where, most, stuck, tops};
        return what < 0 || what >= all.length ? NONE : all[what];
    }
}
