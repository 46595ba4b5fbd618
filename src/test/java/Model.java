import java.math.BigInteger;
import java.util.ArrayDeque;
import java.util.ArrayList;
import java.util.Arrays;
import java.util.Comparator;
import java.util.List;
import java.util.NoSuchElementException;
import java.util.PriorityQueue;
import java.util.TreeSet;

/** The document's promises again, by slow and plain means, to hold the class against. */
final class Model {
    private static final int NONE = -1;

    /** Wrong text: the first wrong byte. */
    private static final class Wrong extends RuntimeException {
        private static final long serialVersionUID = 1L;
        final int at;

        Wrong(int at) {
            this.at = at;
        }
    }

    private static final class Cell {
        int depth = 0;
        int water = 5;
        boolean drain = false;
        int turves = 0;
        int dry = 0;
        int stage = 0;
    }

    private static final class Hearth {
        int hands;
        int need;
        int store;
        TreeSet<Integer> rights = new TreeSet<>();
    }

    private static final class World {
        List<Cell> cells = new ArrayList<>();
        List<Hearth> hearths = new ArrayList<>();
        List<int[]> log = new ArrayList<>();
        List<Line> law = null;
        int sun = 5;
        int shower = 0;
        boolean rain = false;
        int day = 0;
        int seed = 1;
        int texts = 0;

        World() {
            for (int i = 0; i < 25; i++) {
                cells.add(new Cell());
            }
        }

        World copy() {
            World w = new World();
            w.cells.clear();
            for (Cell c : cells) {
                Cell d = new Cell();
                d.depth = c.depth;
                d.water = c.water;
                d.drain = c.drain;
                d.turves = c.turves;
                d.dry = c.dry;
                d.stage = c.stage;
                w.cells.add(d);
            }
            for (Hearth h : hearths) {
                Hearth g = new Hearth();
                g.hands = h.hands;
                g.need = h.need;
                g.store = h.store;
                g.rights.addAll(h.rights);
                w.hearths.add(g);
            }
            w.log.addAll(log);
            w.law = law;
            w.sun = sun;
            w.shower = shower;
            w.rain = rain;
            w.day = day;
            w.seed = seed;
            w.texts = texts;
            return w;
        }
    }

    private interface Cond {
        boolean holds(World w, int cell);
    }

    private interface Sum {
        int of(World w, int cell);
    }

    private record Line(String kind, int n, Cond cond) {
    }

    private World w = new World();
    private World image = null;
    private final ArrayDeque<World> past = new ArrayDeque<>();
    private final List<Integer> tape = new ArrayList<>();
    private int fault = NONE;

    // ---- texts ----

    private record Token(int at, String text) {
        boolean isNumber() {
            return !text.isEmpty() && Character.isDigit(text.charAt(0));
        }
    }

    private static final class Tokens {
        final List<Token> list = new ArrayList<>();
        int next = 0;

        Tokens(List<Integer> bytes) {
            int at = 0;
            while (at < bytes.size()) {
                int from = at;
                char c = (char) (int) bytes.get(at);
                if (c >= 'a' && c <= 'z') {
                    while (at < bytes.size() && bytes.get(at) >= 'a' && bytes.get(at) <= 'z') {
                        at++;
                    }
                } else if (c >= '0' && c <= '9') {
                    while (at < bytes.size() && bytes.get(at) >= '0' && bytes.get(at) <= '9') {
                        at++;
                    }
                } else {
                    at++;
                }
                if (c != ' ') {
                    StringBuilder b = new StringBuilder();
                    for (int i = from; i < at; i++) {
                        b.append((char) (int) bytes.get(i));
                    }
                    list.add(new Token(from, b.toString()));
                }
            }
            list.add(new Token(bytes.size(), ""));
        }

        Token peek() {
            return list.get(next);
        }

        boolean is(String s) {
            return peek().text.equals(s);
        }

        boolean ended() {
            return next == list.size() - 1;
        }

        void must(String s) {
            if (!is(s)) {
                throw new Wrong(peek().at);
            }
            next++;
        }

        boolean may(String s) {
            if (is(s)) {
                next++;
                return true;
            }
            return false;
        }

        int number(int lo, int hi) {
            Token t = peek();
            if (!t.isNumber() || t.text.length() > 3) {
                throw new Wrong(t.at);
            }
            int v = Integer.parseInt(t.text);
            if (v < lo || v > hi) {
                throw new Wrong(t.at);
            }
            next++;
            return v;
        }
    }

    private void readBog(Tokens t, World d) {
        if (t.ended()) {
            return;
        }
        int lines = 0;
        do {
            lines++;
            if (lines > 14) {
                throw new Wrong(t.peek().at);
            }
            bogLine(t, d);
        } while (t.may(";"));
        if (!t.ended()) {
            throw new Wrong(t.peek().at);
        }
    }

    private void bogLine(Tokens t, World d) {
        int at = t.peek().at;
        String word = t.peek().text;
        if (!List.of("peat", "water", "drain", "turves", "hearth", "right", "sun", "shower", "rain", "day")
                .contains(word)) {
            throw new Wrong(at);
        }
        t.next++;
        switch (word) {
            case "peat", "water" -> {
                int c = t.number(0, 24);
                do {
                    if (c > 24) {
                        throw new Wrong(t.peek().at);
                    }
                    int v = t.number(0, 9);
                    if (word.equals("peat")) {
                        d.cells.get(c).depth = v;
                    } else {
                        d.cells.get(c).water = v;
                    }
                    c++;
                } while (t.peek().isNumber());
            }
            case "drain" -> {
                for (int c : listed(t)) {
                    d.cells.get(c).drain = true;
                }
            }
            case "turves" -> {
                Cell c = d.cells.get(t.number(0, 24));
                c.turves = t.number(1, 99);
                c.dry = t.may("dry") ? t.number(0, 99) : 0;
                c.stage = 0;
            }
            case "hearth" -> {
                if (d.hearths.size() == 6) {
                    throw new Wrong(at);
                }
                Hearth h = new Hearth();
                t.must("hands");
                h.hands = t.number(1, 9);
                t.must("need");
                h.need = t.number(0, 99);
                h.store = t.may("store") ? t.number(0, 999) : 0;
                d.hearths.add(h);
            }
            case "right" -> {
                int h = t.number(0, d.hearths.size() - 1);
                d.hearths.get(h).rights.addAll(listed(t));
            }
            case "sun" -> d.sun = t.number(0, 9);
            case "shower" -> d.shower = t.number(0, 100);
            case "day" -> d.day = t.number(0, 999);
            default -> d.rain = true;
        }
    }

    private static List<Integer> listed(Tokens t) {
        List<Integer> cells = new ArrayList<>();
        do {
            if (cells.size() == 8) {
                throw new Wrong(t.peek().at);
            }
            cells.add(t.number(0, 24));
        } while (t.peek().isNumber());
        return cells;
    }

    private List<Line> readLaw(Tokens t) {
        List<Line> lines = new ArrayList<>();
        if (t.ended()) {
            return lines;
        }
        do {
            String kind = t.peek().text;
            if (lines.size() == 12 || !List.of("dry", "soak", "sink").contains(kind)) {
                throw new Wrong(t.peek().at);
            }
            t.next++;
            int n = t.number(0, 20);
            Cond cond = t.may("if") ? any(t, 0) : (w, c) -> true;
            lines.add(new Line(kind, n, cond));
        } while (t.may(";"));
        if (!t.ended()) {
            throw new Wrong(t.peek().at);
        }
        return lines;
    }

    private Cond any(Tokens t, int deep) {
        Cond left = every(t, deep);
        while (t.may("or")) {
            Cond a = left;
            Cond b = every(t, deep);
            left = (w, c) -> a.holds(w, c) || b.holds(w, c);
        }
        return left;
    }

    private Cond every(Tokens t, int deep) {
        Cond left = atom(t, deep);
        while (t.may("and")) {
            Cond a = left;
            Cond b = atom(t, deep);
            left = (w, c) -> a.holds(w, c) && b.holds(w, c);
        }
        return left;
    }

    private Cond atom(Tokens t, int deep) {
        if ((t.is("(") || t.is("not")) && deep == 6) {
            throw new Wrong(t.peek().at);
        }
        if (t.may("not")) {
            Cond a = atom(t, deep + 1);
            return (w, c) -> !a.holds(w, c);
        }
        if (t.may("(")) {
            Cond a = any(t, deep + 1);
            t.must(")");
            return a;
        }
        if (t.may("drained")) {
            return (w, c) -> drainedOf(w).contains(c);
        }
        if (t.may("rain")) {
            return (w, c) -> w.rain;
        }
        if (t.may("laid")) {
            return (w, c) -> w.cells.get(c).turves > 0;
        }
        Sum a = sum(t);
        boolean less = t.may("<");
        if (!less) {
            t.must(">");
        }
        Sum b = sum(t);
        return (w, c) -> less ? a.of(w, c) < b.of(w, c) : a.of(w, c) > b.of(w, c);
    }

    private Sum sum(Tokens t) {
        Sum left = part(t);
        while (t.may("+")) {
            Sum a = left;
            Sum b = part(t);
            left = (w, c) -> a.of(w, c) + b.of(w, c);
        }
        return left;
    }

    private Sum part(Tokens t) {
        if (t.peek().isNumber()) {
            int n = t.number(0, 999);
            return (w, c) -> n;
        }
        Sum found = switch (t.peek().text) {
            case "cell" -> (w, c) -> c;
            case "x" -> (w, c) -> c % 5;
            case "y" -> (w, c) -> c / 5;
            case "depth" -> (w, c) -> w.cells.get(c).depth;
            case "water" -> (w, c) -> w.cells.get(c).water;
            case "turves" -> (w, c) -> w.cells.get(c).turves;
            case "sun" -> (w, c) -> w.sun;
            default -> throw new Wrong(t.peek().at);
        };
        t.next++;
        return found;
    }

    private List<Integer> useTape() {
        List<Integer> told = new ArrayList<>(tape);
        tape.clear();
        return told;
    }

    int feed(int a, int b, int c, int d, int e) {
        if (tape.size() > 380) {
            return NONE;
        }
        for (int v : new int[] {a, b, c, d, e}) {
            for (int shift = 24; shift >= 0; shift -= 8) {
                tape.add(v >> shift & 255);
            }
        }
        return tape.size();
    }

    boolean end(int n) {
        if (n < 0 || n > tape.size()) {
            return false;
        }
        tape.subList(n, tape.size()).clear();
        return true;
    }

    int bog() {
        World d = w.copy();
        fault = NONE;
        try {
            readBog(new Tokens(useTape()), d);
        } catch (Wrong e) {
            fault = e.at;
            throw new IllegalArgumentException();
        }
        if (w.texts == 12) {
            throw new UnsupportedOperationException();
        }
        w = d;
        past.clear();
        return ++w.texts;
    }

    int law() {
        fault = NONE;
        try {
            w.law = readLaw(new Tokens(useTape()));
        } catch (Wrong e) {
            fault = e.at;
            throw new IllegalArgumentException();
        }
        past.clear();
        return w.law.size();
    }

    int fault() {
        return fault;
    }

    // ---- the ground ----

    private static List<Integer> beside(int cell) {
        List<Integer> found = new ArrayList<>();
        int x = cell % 5;
        int y = cell / 5;
        int[][] steps = {{-1, 0}, {1, 0}, {0, -1}, {0, 1}};
        for (int[] s : steps) {
            if (x + s[0] >= 0 && x + s[0] < 5 && y + s[1] >= 0 && y + s[1] < 5) {
                found.add(cell + s[0] + 5 * s[1]);
            }
        }
        return found;
    }

    private static TreeSet<Integer> comeTo(int from, TreeSet<Integer> within) {
        TreeSet<Integer> seen = new TreeSet<>();
        ArrayDeque<Integer> todo = new ArrayDeque<>();
        if (within.contains(from)) {
            seen.add(from);
            todo.add(from);
        }
        while (!todo.isEmpty()) {
            for (int next : beside(todo.remove())) {
                if (within.contains(next) && seen.add(next)) {
                    todo.add(next);
                }
            }
        }
        return seen;
    }

    private static TreeSet<Integer> drainsOf(World w) {
        TreeSet<Integer> found = new TreeSet<>();
        for (int c = 0; c < 25; c++) {
            if (w.cells.get(c).drain) {
                found.add(c);
            }
        }
        return found;
    }

    private static TreeSet<Integer> drainedOf(World w) {
        return comeTo(24, drainsOf(w));
    }

    private static boolean lets(World w, int cell) {
        TreeSet<Integer> drained = drainedOf(w);
        return drained.contains(cell) || beside(cell).stream().anyMatch(drained::contains);
    }

    private static boolean isOpen(World w, int cell) {
        Cell c = w.cells.get(cell);
        return c.depth > 0 && c.water <= 3 && c.turves < 90;
    }

    private static int lineSum(World w, int cell, String kind) {
        int sum = 0;
        if (w.law != null) {
            for (Line line : w.law) {
                if (line.kind.equals(kind) && line.cond.holds(w, cell)) {
                    sum += line.n;
                }
            }
        }
        return sum;
    }

    private static int gain(World w, int cell) {
        int stage = w.cells.get(cell).stage;
        return (w.rain ? stage - 3 : w.sun + 2 * stage) + lineSum(w, cell, "dry") - lineSum(w, cell, "soak");
    }

    private static int sinks(World w, int cell) {
        return w.cells.get(cell).water + lineSum(w, cell, "sink");
    }

    private static int bits(Iterable<Integer> set) {
        int bits = 0;
        for (int one : set) {
            bits |= 1 << one;
        }
        return bits;
    }

    /** The least sum of prices from a cell to each, both ends too. */
    private static int[] prices(int from, int[] price) {
        int[] best = new int[25];
        Arrays.fill(best, Integer.MAX_VALUE);
        PriorityQueue<int[]> queue = new PriorityQueue<>(Comparator.comparingInt((int[] e) -> e[1]));
        queue.add(new int[] {from, price[from]});
        while (!queue.isEmpty()) {
            int[] e = queue.remove();
            if (best[e[0]] == Integer.MAX_VALUE) {
                best[e[0]] = e[1];
                for (int next : beside(e[0])) {
                    queue.add(new int[] {next, e[1] + price[next]});
                }
            }
        }
        return best;
    }

    private static int[] drainPrices(World w) {
        int[] price = new int[25];
        for (int c = 0; c < 25; c++) {
            price[c] = w.cells.get(c).drain ? 0 : 1;
        }
        return price;
    }

    /** Sinks and steps of the way: prices of a thousand a sink, one a cell. */
    private static int wayPrice(World w, int cell) {
        int[] price = new int[25];
        for (int c = 0; c < 25; c++) {
            price[c] = 1000 * sinks(w, c) + 1;
        }
        if (cell < 5) {
            return price[cell];
        }
        int[] found = prices(cell, price);
        return Math.min(Math.min(Math.min(found[0], found[1]), Math.min(found[2], found[3])), found[4]);
    }

    // ---- days ----

    private static int draw(World w) {
        w.seed = w.seed * 1103515245 + 12345;
        return w.seed >> 16 & 0x7fff;
    }

    private static void cutIn(World w, int hearth, int cell, int kind) {
        Cell c = w.cells.get(cell);
        int hands = w.hearths.get(hearth).hands;
        c.dry = c.dry * c.turves / (c.turves + hands);
        c.stage = 0;
        c.turves += hands;
        c.depth--;
        write(w, w.day, hearth, cell, kind, hands);
    }

    private static void write(World w, int... row) {
        w.log.add(0, row);
        if (w.log.size() > 60) {
            w.log.remove(60);
        }
    }

    private static int firstOpen(World w, int hearth) {
        for (int cell : w.hearths.get(hearth).rights) {
            if (isOpen(w, cell)) {
                return cell;
            }
        }
        return NONE;
    }

    private static int day(World w, boolean draws) {
        if (draws) {
            w.sun = draw(w) % 10;
            w.rain = draw(w) % 100 < w.shower;
        }
        TreeSet<Integer> drained = drainedOf(w);
        for (int c = 0; c < 25; c++) {
            int level = w.cells.get(c).water;
            level += w.rain ? 1 : 0;
            level -= lets(w, c) ? 1 : 0;
            level -= drained.contains(c) ? 1 : 0;
            w.cells.get(c).water = Math.min(9, Math.max(0, level));
        }
        int[] gains = new int[25];
        for (int c = 0; c < 25; c++) {
            gains[c] = gain(w, c);
        }
        for (int c = 0; c < 25; c++) {
            Cell cell = w.cells.get(c);
            if (cell.turves > 0) {
                cell.dry = Math.min(99, Math.max(0, cell.dry + gains[c]));
            }
        }
        int cuts = 0;
        for (int h = 0; h < w.hearths.size(); h++) {
            if (w.hearths.get(h).store < w.hearths.get(h).need && firstOpen(w, h) != NONE) {
                cutIn(w, h, firstOpen(w, h), 0);
                cuts++;
            }
        }
        w.day = Math.min(9999, w.day + 1);
        return cuts;
    }

    private World in(int n) {
        World d = w.copy();
        for (int i = 0; i < n; i++) {
            day(d, false);
        }
        return d;
    }

    private interface Stands {
        boolean in(World d);
    }

    private int first(Stands what) {
        World d = w.copy();
        for (int n = 0; n <= 60; n++) {
            if (what.in(d)) {
                return n;
            }
            day(d, false);
        }
        return NONE;
    }

    private World tried(int n, int seed) {
        World d = w.copy();
        d.seed = seed;
        for (int i = 0; i < n; i++) {
            day(d, true);
        }
        return d;
    }

    // ---- what is told ----

    private static void needCell(int cell) {
        if (cell < 0 || cell > 24) {
            throw new IndexOutOfBoundsException();
        }
    }

    private void needHearth(int hearth) {
        if (hearth < 0 || hearth >= w.hearths.size()) {
            throw new IndexOutOfBoundsException();
        }
    }

    private static void need(boolean is) {
        if (!is) {
            throw new IllegalArgumentException();
        }
    }

    private static void can(boolean is) {
        if (!is) {
            throw new IllegalStateException();
        }
    }

    int cell(int cell, int what) {
        needCell(cell);
        Cell c = w.cells.get(cell);
        return switch (what) {
            case 0 -> c.depth;
            case 1 -> c.water;
            case 2 -> c.drain ? 1 : 0;
            case 3 -> c.turves;
            case 4 -> c.dry;
            case 5 -> c.stage;
            case 6 -> drainedOf(w).contains(cell) ? 1 : 0;
            case 7 -> lets(w, cell) ? 1 : 0;
            case 8 -> isOpen(w, cell) ? 1 : 0;
            case 9 -> gain(w, cell);
            case 10 -> sinks(w, cell);
            case 11 -> prices(24, drainPrices(w))[cell];
            case 12 -> wayPrice(w, cell) / 1000;
            case 13 -> wayPrice(w, cell) % 1000 - 1;
            case 14 -> first(d -> d.cells.get(cell).turves > 0 && d.cells.get(cell).dry >= 60);
            case 15 -> first(d -> isOpen(d, cell));
            case 16 -> owners(cell);
            default -> throw new NoSuchElementException();
        };
    }

    private int owners(int cell) {
        int bits = 0;
        for (int h = 0; h < w.hearths.size(); h++) {
            bits |= w.hearths.get(h).rights.contains(cell) ? 1 << h : 0;
        }
        return bits;
    }

    private int lacks(int hearth) {
        return Math.max(0, w.hearths.get(hearth).need - w.hearths.get(hearth).store);
    }

    private int stores() {
        return w.hearths.stream().mapToInt(h -> h.store).sum();
    }

    int hearth(int hearth, int what) {
        needHearth(hearth);
        Hearth h = w.hearths.get(hearth);
        return switch (what) {
            case 0 -> h.hands;
            case 1 -> h.need;
            case 2 -> h.store;
            case 3 -> bits(h.rights);
            case 4 -> lacks(hearth);
            case 5 -> firstOpen(w, hearth);
            case 6 -> stores() == 0 ? 0 : h.store * 100 / stores();
            default -> throw new NoSuchElementException();
        };
    }

    // ---- acts ----

    private void remember() {
        past.push(w.copy());
        if (past.size() > 12) {
            past.removeLast();
        }
    }

    int days(int n) {
        need(n >= 1 && n <= 60);
        remember();
        int cuts = 0;
        for (int i = 0; i < n; i++) {
            cuts += day(w, true);
        }
        return cuts;
    }

    int cut(int hearth, int cell) {
        needHearth(hearth);
        needCell(cell);
        can(isOpen(w, cell) && w.hearths.get(hearth).rights.contains(cell));
        remember();
        cutIn(w, hearth, cell, 1);
        return w.cells.get(cell).turves;
    }

    int foot(int cell) {
        needCell(cell);
        Cell c = w.cells.get(cell);
        can(c.turves > 0 && (c.stage == 0 && c.dry >= 30 || c.stage == 1 && c.dry >= 50));
        remember();
        return ++c.stage;
    }

    int cart(int hearth, int cell) {
        needHearth(hearth);
        needCell(cell);
        Cell c = w.cells.get(cell);
        Hearth h = w.hearths.get(hearth);
        can(c.turves > 0 && c.dry >= 60 && h.rights.contains(cell) && cell(cell, 12) <= 4 * h.hands);
        remember();
        write(w, w.day, hearth, cell, 2, c.turves);
        h.store = Math.min(999, h.store + c.turves);
        c.turves = 0;
        c.dry = 0;
        c.stage = 0;
        return h.store;
    }

    boolean dig(int cell) {
        needCell(cell);
        remember();
        boolean was = w.cells.get(cell).drain;
        w.cells.get(cell).drain = true;
        return !was;
    }

    boolean block(int cell) {
        needCell(cell);
        remember();
        boolean was = w.cells.get(cell).drain;
        w.cells.get(cell).drain = false;
        return was;
    }

    boolean right(int hearth, int cell, boolean is) {
        needHearth(hearth);
        needCell(cell);
        remember();
        TreeSet<Integer> rights = w.hearths.get(hearth).rights;
        return is ? rights.add(cell) : rights.remove(cell);
    }

    int trade(int hearth, int other, int n) {
        needHearth(hearth);
        needHearth(other);
        need(hearth != other && n >= 1 && n <= 999);
        can(w.hearths.get(hearth).store >= n);
        remember();
        w.hearths.get(hearth).store -= n;
        Hearth o = w.hearths.get(other);
        o.store = Math.min(999, o.store + n);
        return o.store;
    }

    int sky(int sun, boolean rain) {
        need(sun >= 0 && sun <= 9);
        remember();
        int was = w.sun;
        w.sun = sun;
        w.rain = rain;
        return was;
    }

    int drained() {
        return bits(drainedOf(w));
    }

    int open() {
        int bits = 0;
        for (int c = 0; c < 25; c++) {
            bits |= isOpen(w, c) ? 1 << c : 0;
        }
        return bits;
    }

    // ---- nets: all told cells, the outfall and at most three more where ways part, put together ----

    int net() {
        List<Integer> told = useTape();
        need(told.size() <= 4 && told.stream().allMatch(c -> c < 25));
        if (told.isEmpty()) {
            return 0;
        }
        int[] price = drainPrices(w);
        int[][] between = new int[25][];
        for (int a = 0; a < 25; a++) {
            between[a] = prices(a, price);
            for (int b = 0; b < 25; b++) {
                between[a][b] -= a == b ? price[a] : price[a] + price[b];
            }
        }
        TreeSet<Integer> ends = new TreeSet<>(told);
        ends.add(24);
        int extra = Math.max(0, ends.size() - 2);
        return bestNet(ends, 0, extra, price, between);
    }

    private static int bestNet(TreeSet<Integer> nodes, int from, int extra, int[] price, int[][] between) {
        int best = tree(nodes, price, between);
        for (int c = from; c < 25 && extra > 0; c++) {
            if (!nodes.contains(c)) {
                TreeSet<Integer> more = new TreeSet<>(nodes);
                more.add(c);
                best = Math.min(best, bestNet(more, c + 1, extra - 1, price, between));
            }
        }
        return best;
    }

    private static int tree(TreeSet<Integer> nodes, int[] price, int[][] between) {
        int sum = 0;
        List<Integer> in = new ArrayList<>(List.of(nodes.first()));
        List<Integer> out = new ArrayList<>(nodes.tailSet(nodes.first(), false));
        for (int node : nodes) {
            sum += price[node];
        }
        while (!out.isEmpty()) {
            int best = Integer.MAX_VALUE;
            int take = 0;
            for (int a : in) {
                for (int b : out) {
                    if (between[a][b] < best) {
                        best = between[a][b];
                        take = b;
                    }
                }
            }
            sum += best;
            in.add(take);
            out.remove(Integer.valueOf(take));
        }
        return sum;
    }

    int flood() {
        return first(d -> d.cells.stream().anyMatch(c -> c.water == 9));
    }

    // ---- guesses ----

    private List<int[]> rows(int firstMost, int secondMost) {
        List<Integer> told = useTape();
        need(told.size() <= 40 && told.size() % 2 == 0);
        List<int[]> rows = new ArrayList<>();
        for (int i = 0; i < told.size(); i += 2) {
            need(told.get(i) <= firstMost && told.get(i + 1) <= secondMost);
            rows.add(new int[] {told.get(i), told.get(i + 1)});
        }
        return rows;
    }

    private static TreeSet<Integer> trunk(int length, int way, int begin) {
        int[][] steps = {{1, 0}, {0, 1}, {1, 1}, {-1, 1}};
        TreeSet<Integer> cells = new TreeSet<>();
        for (int i = 0; i < length; i++) {
            int x = begin % 5 + i * steps[way][0];
            int y = begin / 5 + i * steps[way][1];
            if (x < 0 || x > 4 || y > 4) {
                return null;
            }
            cells.add(5 * y + x);
        }
        return cells;
    }

    private record Fit(int number, int wrong, TreeSet<Integer> cells) {
    }

    private List<Fit> trunkFits() {
        List<int[]> rows = rows(24, 1);
        List<Fit> fits = new ArrayList<>();
        for (int length = 2; length <= 5; length++) {
            for (int way = 0; way < 4; way++) {
                for (int begin = 0; begin < 25; begin++) {
                    TreeSet<Integer> cells = trunk(length, way, begin);
                    if (cells == null) {
                        continue;
                    }
                    int wrong = 0;
                    for (int[] row : rows) {
                        wrong += cells.contains(row[0]) == (row[1] == 1) ? 0 : 1;
                    }
                    if (wrong <= 1) {
                        fits.add(new Fit(100 * (length - 2) + 25 * way + begin, wrong, cells));
                    }
                }
            }
        }
        return fits;
    }

    int trunks() {
        return trunkFits().size();
    }

    int likely() {
        return trunkFits().stream().min(Comparator.comparingInt((Fit f) -> f.wrong).thenComparingInt(f -> f.number))
                .map(f -> f.number).orElse(NONE);
    }

    int probe() {
        List<Fit> fits = trunkFits();
        int best = NONE;
        int least = Integer.MAX_VALUE;
        for (int c = 0; c < 25 && fits.size() >= 2; c++) {
            int cell = c;
            int with = (int) fits.stream().filter(f -> f.cells.contains(cell)).count();
            int greater = Math.max(with, fits.size() - with);
            if (greater < least) {
                least = greater;
                best = c;
            }
        }
        return best;
    }

    private static int level(int[] fall, int day) {
        return Math.max(fall[0] - day / fall[1], Math.min(fall[2], fall[0]));
    }

    private List<int[]> fallFits() {
        List<int[]> rows = rows(99, 9);
        List<int[]> fits = new ArrayList<>();
        for (int first = 0; first <= 9; first++) {
            for (int pace = 1; pace <= 20; pace++) {
                for (int least = 0; least <= 9; least++) {
                    int[] fall = {first, pace, least};
                    if (rows.stream().allMatch(row -> level(fall, row[0]) == row[1])) {
                        fits.add(fall);
                    }
                }
            }
        }
        return fits;
    }

    int falls(boolean first) {
        List<int[]> fits = fallFits();
        if (!first) {
            return fits.size();
        }
        return fits.isEmpty() ? NONE : 200 * fits.get(0)[0] + 10 * (fits.get(0)[1] - 1) + fits.get(0)[2];
    }

    int ask() {
        List<int[]> fits = fallFits();
        int best = NONE;
        int least = Integer.MAX_VALUE;
        for (int day = 0; day < 100 && fits.size() >= 2; day++) {
            int[] parts = new int[10];
            for (int[] fall : fits) {
                parts[level(fall, day)]++;
            }
            int greatest = Arrays.stream(parts).max().getAsInt();
            if (greatest < least) {
                least = greatest;
                best = day;
            }
        }
        return best;
    }

    // ---- hearths together ----

    private int bestSum;
    private int[] bestWay;

    /** All ways in their order: one is better only if its sum is greater. */
    private void placeFrom(int hearth, int[] way, int sum) {
        if (hearth == w.hearths.size()) {
            if (sum > bestSum) {
                bestSum = sum;
                bestWay = way.clone();
            }
            return;
        }
        way[hearth] = NONE;
        placeFrom(hearth + 1, way, sum);
        for (int cell : w.hearths.get(hearth).rights) {
            boolean free = isOpen(w, cell);
            for (int h = 0; h < hearth; h++) {
                free &= way[h] != cell;
            }
            if (free) {
                way[hearth] = cell;
                placeFrom(hearth + 1, way, sum + w.cells.get(cell).depth);
            }
        }
    }

    int placed(int hearth) {
        if (hearth != NONE) {
            needHearth(hearth);
        }
        bestSum = NONE;
        placeFrom(0, new int[6], 0);
        return hearth == NONE ? bestSum : bestWay[hearth];
    }

    int even() {
        int n = w.hearths.size();
        int best = n == 0 ? 0 : Integer.MAX_VALUE;
        for (int set = 0; set < 1 << n && n > 0; set++) {
            if (Integer.bitCount(set) == stores() % n) {
                int moved = 0;
                for (int h = 0; h < n; h++) {
                    moved += Math.max(0, w.hearths.get(h).store - stores() / n - (set >> h & 1));
                }
                best = Math.min(best, moved);
            }
        }
        return best;
    }

    private static int grundy(int depth) {
        TreeSet<Integer> next = new TreeSet<>();
        for (int n = 1; n <= Math.min(3, depth); n++) {
            next.add(grundy(depth - n));
        }
        int mex = 0;
        while (next.contains(mex)) {
            mex++;
        }
        return mex;
    }

    private boolean wins(int cells, int changed, int depth) {
        int sum = 0;
        for (int c = 0; c < 25; c++) {
            if ((cells >> c & 1) == 1) {
                sum ^= grundy(c == changed ? depth : w.cells.get(c).depth);
            }
        }
        return sum != 0;
    }

    boolean last(int cells) {
        return wins(cells, NONE, 0);
    }

    int spit(int cells) {
        for (int c = 0; c < 25; c++) {
            for (int n = 1; n <= 3 && n <= w.cells.get(c).depth && (cells >> c & 1) == 1; n++) {
                if (!wins(cells, c, w.cells.get(c).depth - n)) {
                    return 4 * c + n;
                }
            }
        }
        return NONE;
    }

    private TreeSet<Integer> peat() {
        TreeSet<Integer> found = new TreeSet<>();
        for (int c = 0; c < 25; c++) {
            if (w.cells.get(c).depth > 0) {
                found.add(c);
            }
        }
        return found;
    }

    private static int pieces(TreeSet<Integer> set) {
        TreeSet<Integer> left = new TreeSet<>(set);
        int n = 0;
        while (!left.isEmpty()) {
            left.removeAll(comeTo(left.first(), set));
            n++;
        }
        return n;
    }

    int hags() {
        return pieces(peat());
    }

    int hag(int cell) {
        needCell(cell);
        return bits(comeTo(cell, peat()));
    }

    int bridges() {
        int bits = 0;
        for (int c : peat()) {
            TreeSet<Integer> without = peat();
            without.remove(c);
            bits |= pieces(without) > hags() ? 1 << c : 0;
        }
        return bits;
    }

    int far(int cell, int other) {
        needCell(cell);
        needCell(other);
        if (!comeTo(cell, peat()).contains(other)) {
            return NONE;
        }
        int[] price = new int[25];
        Arrays.fill(price, 1000);
        for (int c : peat()) {
            price[c] = 1;
        }
        return prices(cell, price)[other] - 1;
    }

    private void pairFrom(int hearth, int[] way, int sum) {
        int n = w.hearths.size();
        if (hearth == n) {
            if (sum > bestSum) {
                bestSum = sum;
                bestWay = way.clone();
            }
            return;
        }
        if (way[hearth] != NONE) {
            pairFrom(hearth + 1, way, sum);
            return;
        }
        pairFrom(hearth + 1, way, sum);
        for (int other = hearth + 1; other < n; other++) {
            if (way[other] == NONE) {
                TreeSet<Integer> both = new TreeSet<>(w.hearths.get(hearth).rights);
                both.retainAll(w.hearths.get(other).rights);
                way[hearth] = other;
                way[other] = hearth;
                pairFrom(hearth + 1, way, sum + both.size());
                way[hearth] = NONE;
                way[other] = NONE;
            }
        }
    }

    int pairs(int hearth) {
        if (hearth != NONE) {
            needHearth(hearth);
        }
        bestSum = NONE;
        int[] way = new int[6];
        Arrays.fill(way, NONE);
        pairFrom(0, way, 0);
        return hearth == NONE ? bestSum : bestWay[hearth];
    }

    int rests(int hearth, int other) {
        needHearth(hearth);
        needHearth(other);
        need(hearth != other);
        int a = w.hearths.get(hearth).hands;
        int b = w.hearths.get(other).hands;
        int[] mine = {a - b, a, -(lacks(hearth) / 10), w.sun - 5};
        int[] its = {b - a, -(lacks(other) / 10), b, w.sun - 5};
        int bits = 0;
        for (int i = 0; i < 4; i++) {
            bits |= mine[i ^ 2] <= mine[i] && its[i ^ 1] <= its[i] ? 1 << i : 0;
        }
        return bits;
    }

    int odds(int n, int k) {
        need(n >= 0 && n <= 5 && k >= 0 && k <= 5);
        BigInteger sum = BigInteger.ZERO;
        for (int wet = 0; wet < 1 << n; wet++) {
            if (Integer.bitCount(wet) >= k) {
                BigInteger odds = BigInteger.TEN.pow(4);
                for (int i = 0; i < n; i++) {
                    odds = odds.multiply(BigInteger.valueOf((wet >> i & 1) == 1 ? w.shower : 100 - w.shower));
                }
                sum = sum.add(odds);
            }
        }
        return sum.divide(BigInteger.valueOf(100).pow(n)).intValue();
    }

    int deepest() {
        int best = 0;
        for (int c = 24; c >= 0; c--) {
            best = w.cells.get(c).depth >= w.cells.get(best).depth || c == 24 ? c : best;
        }
        return best;
    }

    int wettest() {
        int best = 24;
        for (int c = 24; c >= 0; c--) {
            best = w.cells.get(c).water >= w.cells.get(best).water ? c : best;
        }
        return best;
    }

    int richest() {
        int best = w.hearths.size() - 1;
        for (int h = best; h >= 0; h--) {
            best = w.hearths.get(h).store >= w.hearths.get(best).store ? h : best;
        }
        return best;
    }

    int cold() {
        int bits = 0;
        for (int h = 0; h < w.hearths.size(); h++) {
            bits |= w.hearths.get(h).store < w.hearths.get(h).need ? 1 << h : 0;
        }
        return bits;
    }

    int twins() {
        int n = 0;
        for (Hearth a : w.hearths) {
            for (Hearth b : w.hearths) {
                n += a != b && a.hands == b.hands && a.need == b.need ? 1 : 0;
            }
        }
        return n / 2;
    }

    int waste() {
        TreeSet<Integer> left = peat();
        w.hearths.forEach(h -> left.removeAll(h.rights));
        return bits(left);
    }

    int staged(int stage) {
        if (stage < 0 || stage > 2) {
            throw new IndexOutOfBoundsException();
        }
        return w.cells.stream().filter(c -> c.turves > 0 && c.stage == stage).mapToInt(c -> c.turves).sum();
    }

    int ahead(int cell, int n, int what) {
        needCell(cell);
        need(n >= 0 && n <= 60);
        if (what < 0 || what > 3) {
            throw new NoSuchElementException();
        }
        Cell c = in(n).cells.get(cell);
        return new int[] {c.depth, c.water, c.turves, c.dry}[what];
    }

    int trial(int n, boolean open) {
        need(n >= 0 && n <= 60);
        World d = tried(n, w.seed);
        int opens = 0;
        int turves = 0;
        for (int c = 0; c < 25; c++) {
            opens += isOpen(d, c) ? 1 : 0;
            turves += d.cells.get(c).turves;
        }
        return open ? opens : turves;
    }

    int span(int n, boolean most) {
        need(n >= 0 && n <= 60);
        TreeSet<Integer> sums = new TreeSet<>();
        for (int seed = 1; seed <= 6; seed++) {
            sums.add(tried(n, seed).cells.stream().mapToInt(c -> c.depth).sum());
        }
        return most ? sums.last() : sums.first();
    }

    int led(int hearth, boolean day) {
        needHearth(hearth);
        List<int[]> rows = w.log.stream().filter(row -> row[1] == hearth).toList();
        if (!day) {
            return rows.size();
        }
        return rows.isEmpty() ? NONE : rows.get(0)[0];
    }

    int log(int ago, int what) {
        if (what < 0 || what > 4) {
            throw new NoSuchElementException();
        }
        return ago < 0 || ago >= w.log.size() ? NONE : w.log.get(ago)[what];
    }

    int seed(int n) {
        int was = w.seed;
        w.seed = n;
        return was;
    }

    boolean undo() {
        if (past.isEmpty()) {
            return false;
        }
        w = past.pop();
        return true;
    }

    void image() {
        image = w.copy();
    }

    boolean back() {
        if (image == null) {
            return false;
        }
        w = image.copy();
        past.clear();
        return true;
    }

    int count(int what) {
        return switch (what) {
            case 0 -> w.hearths.size();
            case 1 -> w.texts;
            case 2 -> w.law == null ? NONE : w.law.size();
            case 3 -> w.sun;
            case 4 -> w.shower;
            case 5 -> w.rain ? 1 : 0;
            case 6 -> w.day;
            case 7 -> w.cells.stream().mapToInt(c -> c.depth).sum();
            case 8 -> w.cells.stream().mapToInt(c -> c.turves).sum();
            case 9 -> stores();
            case 10 -> drainsOf(w).size();
            case 11 -> w.log.size();
            case 12 -> past.size();
            default -> NONE;
        };
    }
}
