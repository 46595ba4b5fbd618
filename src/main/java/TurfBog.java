import java.util.Arrays;
import java.util.NoSuchElementException;

/** A turf bog; what each call does stands in the document, promise by promise. */
public final class TurfBog {
    public static final int NONE = -1;

    private static final int SIDE = 5;
    private static final int CELLS = 25;
    private static final int OUTFALL = 24;
    private static final int MOST_HEARTHS = 6;
    private static final int MOST_TEXTS = 12;
    private static final int MOST_ACTS = 12;
    private static final int MOST_AHEAD = 60;
    private static final int MOST_TAPE = 400;
    private static final int MOST_STORE = 999;
    private static final int MOST_TOLD_BYTES = 40;
    private static final int DRY_ENOUGH = 60;

    private static final int ALL_CELLS = 33554431;
    private static final int LEFT_EDGE = 1082401;
    private static final int RIGHT_EDGE = 17318416;

    private static final int KIND_DAY = 0;
    private static final int KIND_HAND = 1;
    private static final int KIND_CART = 2;

    private static final long[] HUNDREDS = {1L, 100L, 10000L, 1000000L, 100000000L, 10000000000L};

    private static final int FOR_RIPE = 0;
    private static final int FOR_CLEAR = 1;
    private static final int FOR_FLOOD = 2;

    private final State now = new State();
    private final State draft = new State();
    private final State kept = new State();
    private boolean isKept = false;
    private final State[] past = new State[MOST_ACTS];
    private int acts = 0;
    private final int[] tape = new int[MOST_TAPE];
    private int tapeLength = 0;
    private int wrongByte = NONE;
    private final Reader reader = new Reader(tape);
    private final BogText bogText = new BogText(reader, draft);
    private final LawText lawText = new LawText(reader);
    private final Ways ways = new Ways();
    private final TrunkGuess trunkGuess = new TrunkGuess();
    private final FallGuess fallGuess = new FallGuess(tape);
    private final Matching matching = new Matching();

    public TurfBog() {
        for (int i = 0; i < MOST_ACTS; i++) {
            past[i] = new State();
        }
    }

    // ---- the tape and the texts ----

    public int feed(int a, int b, int c, int d, int e) {
        if (tapeLength + 20 > MOST_TAPE) {
            return NONE;
        }
        putNumber(a);
        putNumber(b);
        putNumber(c);
        putNumber(d);
        putNumber(e);
        return tapeLength;
    }

    private void putNumber(int number) {
        for (int shift = 24; shift >= 0 && tapeLength < MOST_TAPE; shift -= 8) {
            tape[tapeLength] = number >>> shift & 255;
            tapeLength++;
        }
    }

    public boolean end(int n) {
        if (n < 0 || n > tapeLength) {
            return false;
        }
        tapeLength = n;
        return true;
    }

    private int useTape() {
        int length = tapeLength;
        tapeLength = 0;
        return length;
    }

    public int bog() throws IllegalArgumentException, UnsupportedOperationException {
        reader.start(useTape());
        draft.copyFrom(now);
        boolean right = bogText.readAll();
        wrongByte = right ? NONE : reader.place;
        if (!right) {
            throw new IllegalArgumentException("the text is wrong");
        }
        if (now.texts >= MOST_TEXTS) {
            throw new UnsupportedOperationException("there are twelve texts");
        }
        now.copyFrom(draft);
        now.texts++;
        acts = 0;
        return now.texts;
    }

    public int law() throws IllegalArgumentException {
        reader.start(useTape());
        boolean right = lawText.readAll();
        wrongByte = right ? NONE : reader.place;
        if (!right) {
            throw new IllegalArgumentException("the text is wrong");
        }
        now.law = new Law(lawText);
        acts = 0;
        return now.law.lines;
    }

    public int fault() {
        return wrongByte;
    }

    // ---- what is told of cells and hearths ----

    private static void needCell(int cell) {
        if (cell < 0 || cell >= CELLS) {
            throw new IndexOutOfBoundsException("there is no such cell");
        }
    }

    private void needHearth(int hearth) {
        if (hearth < 0 || hearth >= now.hearths) {
            throw new IndexOutOfBoundsException("there is no such hearth");
        }
    }

    private static void needDays(int n, int least, int most) {
        if (n < least || n > most) {
            throw new IllegalArgumentException("so many days are none");
        }
    }

    private static int oneIf(boolean is) {
        return is ? 1 : 0;
    }

    public int cell(int cell, int what) throws IndexOutOfBoundsException, NoSuchElementException {
        needCell(cell);
        switch (what) {
            case 0: return now.depth[cell];
            case 1: return now.water[cell];
            case 2: return now.drains >> cell & 1;
            case 3: return now.turves[cell];
            case 4: return now.dry[cell];
            case 5: return now.stage[cell];
            case 6: return now.drainedCells() >> cell & 1;
            case 7: return Ground.letting(now.drainedCells()) >> cell & 1;
            case 8: return oneIf(now.isOpen(cell));
            case 9: return now.gain(cell, now.drainedCells());
            case 10: return now.sinks(cell, now.drainedCells());
            case 11: return Ways.ditch(now.drains, cell);
            case 12: return ways.leastSinks(now, cell);
            case 13: return ways.fewestSteps(now, cell);
            case 14: return firstDay(FOR_RIPE, cell);
            case 15: return firstDay(FOR_CLEAR, cell);
            case 16: return now.owners(cell);
            default: throw new NoSuchElementException("nothing such is told of a cell");
        }
    }

    public int hearth(int hearth, int what) throws IndexOutOfBoundsException, NoSuchElementException {
        needHearth(hearth);
        switch (what) {
            case 0: return now.hands[hearth];
            case 1: return now.need[hearth];
            case 2: return now.store[hearth];
            case 3: return now.rights[hearth];
            case 4: return now.lacks(hearth);
            case 5: return now.firstOpen(hearth);
            case 6: return shareOf(hearth);
            default: throw new NoSuchElementException("nothing such is told of a hearth");
        }
    }

    private int shareOf(int hearth) {
        int all = State.sum(now.store);
        return all > 0 ? 100 * now.store[hearth] / all : 0;
    }

    // ---- acts ----

    /** Keeps all as it is ahead of an act; the oldest of twelve makes room. */
    private void remember() {
        if (acts == MOST_ACTS) {
            State oldest = past[0];
            for (int i = 1; i < MOST_ACTS; i++) {
                past[i - 1] = past[i];
            }
            past[MOST_ACTS - 1] = oldest;
            acts--;
        }
        past[acts].copyFrom(now);
        acts++;
    }

    public int days(int n) throws IllegalArgumentException {
        needDays(n, 1, MOST_AHEAD);
        remember();
        int cuts = 0;
        for (int i = 0; i < n; i++) {
            now.drawSky();
            cuts += now.passDay();
        }
        return cuts;
    }

    public int cut(int hearth, int cell) throws IndexOutOfBoundsException, IllegalStateException {
        needHearth(hearth);
        needCell(cell);
        if (!now.isOpen(cell) || !now.hasRight(hearth, cell)) {
            throw new IllegalStateException("the hearth may not cut there");
        }
        remember();
        now.cutAt(hearth, cell, KIND_HAND);
        return now.turves[cell];
    }

    public int foot(int cell) throws IndexOutOfBoundsException, IllegalStateException {
        needCell(cell);
        int stage = now.stage[cell];
        boolean dryEnough = now.dry[cell] >= (stage == 0 ? 30 : 50);
        if (now.turves[cell] == 0 || stage >= 2 || !dryEnough) {
            throw new IllegalStateException("these cannot be footed or ricked");
        }
        remember();
        now.stage[cell] = stage + 1;
        return stage + 1;
    }

    public int cart(int hearth, int cell) throws IndexOutOfBoundsException, IllegalStateException {
        needHearth(hearth);
        needCell(cell);
        if (now.turves[cell] == 0 || now.dry[cell] < DRY_ENOUGH || !now.hasRight(hearth, cell)
                || ways.leastSinks(now, cell) > 4 * now.hands[hearth]) {
            throw new IllegalStateException("these cannot be carted home");
        }
        remember();
        now.cartHome(hearth, cell);
        return now.store[hearth];
    }

    public boolean dig(int cell) throws IndexOutOfBoundsException {
        needCell(cell);
        remember();
        boolean had = (now.drains >> cell & 1) == 1;
        now.drains |= 1 << cell;
        return !had;
    }

    public boolean block(int cell) throws IndexOutOfBoundsException {
        needCell(cell);
        remember();
        boolean had = (now.drains >> cell & 1) == 1;
        now.drains &= ~(1 << cell);
        return had;
    }

    public boolean right(int hearth, int cell, boolean is) throws IndexOutOfBoundsException {
        needHearth(hearth);
        needCell(cell);
        remember();
        boolean had = now.hasRight(hearth, cell);
        if (is) {
            now.rights[hearth] |= 1 << cell;
        } else {
            now.rights[hearth] &= ~(1 << cell);
        }
        return had != is;
    }

    public int trade(int hearth, int other, int n)
            throws IndexOutOfBoundsException, IllegalArgumentException, IllegalStateException {
        needHearth(hearth);
        needHearth(other);
        if (hearth == other || n < 1 || n > MOST_STORE) {
            throw new IllegalArgumentException("that is no trade");
        }
        if (now.store[hearth] < n) {
            throw new IllegalStateException("the store is less");
        }
        remember();
        now.store[hearth] -= n;
        now.addToStore(other, n);
        return now.store[other];
    }

    public int sky(int sun, boolean rain) throws IllegalArgumentException {
        if (sun < 0 || sun > 9) {
            throw new IllegalArgumentException("there is no such sun");
        }
        remember();
        int was = now.sun;
        now.sun = sun;
        now.rain = rain;
        return was;
    }

    // ---- drains and ways ----

    public int drained() {
        return now.drainedCells();
    }

    public int open() {
        return now.openCells();
    }

    public int net() throws IllegalArgumentException {
        int told = useTape();
        boolean fits = told <= Ways.MOST_TOLD;
        for (int i = 0; fits && i < told; i++) {
            fits = tape[i] < CELLS;
        }
        if (!fits) {
            throw new IllegalArgumentException("the tape tells no such cells");
        }
        return ways.fewestDrains(now.drains, tape, told);
    }

    public int flood() {
        return firstDay(FOR_FLOOD, 0);
    }

    /** The first of the days ahead on which what is looked for stands. */
    private int firstDay(int what, int cell) {
        draft.copyFrom(now);
        for (int n = 0; n < MOST_AHEAD; n++) {
            if (standsInDraft(what, cell)) {
                return n;
            }
            draft.passDay();
        }
        return standsInDraft(what, cell) ? MOST_AHEAD : NONE;
    }

    private boolean standsInDraft(int what, int cell) {
        if (what == FOR_RIPE) {
            return draft.turves[cell] > 0 && draft.dry[cell] >= DRY_ENOUGH;
        }
        if (what == FOR_CLEAR) {
            return draft.isOpen(cell);
        }
        return draft.water[State.firstOfMost(draft.water, CELLS)] == 9;
    }

    // ---- guesses by what was told ----

    /** Uses the tape up: how many rows of two bytes it tells, each below its bound. */
    private int toldRows(int firstBound, int secondBound) {
        int length = useTape();
        boolean fits = length <= MOST_TOLD_BYTES && length % 2 == 0;
        for (int i = 0; fits && i < length; i++) {
            fits = tape[i] < (i % 2 == 0 ? firstBound : secondBound);
        }
        if (!fits) {
            throw new IllegalArgumentException("the tape tells no such rows");
        }
        return length / 2;
    }

    public int trunks() throws IllegalArgumentException {
        trunkGuess.tell(tape, toldRows(CELLS, 2));
        return trunkGuess.countFits();
    }

    public int likely() throws IllegalArgumentException {
        trunkGuess.tell(tape, toldRows(CELLS, 2));
        return trunkGuess.leastWrong();
    }

    public int probe() throws IllegalArgumentException {
        trunkGuess.tell(tape, toldRows(CELLS, 2));
        return trunkGuess.bestCell();
    }

    public int falls(boolean first) throws IllegalArgumentException {
        int rows = toldRows(FallGuess.DAYS, FallGuess.WATERS);
        return first ? fallGuess.firstFit(rows) : fallGuess.countFits(rows);
    }

    public int ask() throws IllegalArgumentException {
        return fallGuess.bestDay(toldRows(FallGuess.DAYS, FallGuess.WATERS));
    }

    // ---- hearths together ----

    public int placed(int hearth) throws IndexOutOfBoundsException {
        if (hearth != NONE) {
            needHearth(hearth);
        }
        return matching.place(now, hearth);
    }

    public int even() {
        if (now.hearths == 0) {
            return 0;
        }
        int all = State.sum(now.store);
        int each = all / now.hearths;
        int spare = all % now.hearths;
        int moved = 0;
        // A hearth that has more than the even part may keep one, as long as some are spare.
        for (int h = 0; h < now.hearths; h++) {
            int above = now.store[h] - each;
            if (above > 0 && spare > 0) {
                spare--;
                above--;
            }
            moved += Math.max(above, 0);
        }
        return moved;
    }

    public boolean last(int cells) {
        return nimSum(cells) != 0;
    }

    public int spit(int cells) {
        int sum = nimSum(cells);
        if (sum == 0) {
            return NONE;
        }
        for (int c = 0; c < CELLS; c++) {
            int depth = (cells >> c & 1) == 1 ? now.depth[c] : 0;
            for (int n = 1; n <= 3 && n <= depth; n++) {
                if ((sum ^ depth % 4 ^ (depth - n) % 4) == 0) {
                    return 4 * c + n;
                }
            }
        }
        return NONE;
    }

    private int nimSum(int cells) {
        int sum = 0;
        for (int c = 0; c < CELLS; c++) {
            if ((cells >> c & 1) == 1) {
                sum ^= now.depth[c] % 4;
            }
        }
        return sum;
    }

    // ---- peat that hangs together ----

    public int hags() {
        return Ground.pieces(now.peatCells());
    }

    public int hag(int cell) throws IndexOutOfBoundsException {
        needCell(cell);
        int peat = now.peatCells();
        return Ground.spread(peat & 1 << cell, peat);
    }

    public int bridges() {
        int peat = now.peatCells();
        int pieces = Ground.pieces(peat);
        int found = 0;
        for (int c = 0; c < CELLS; c++) {
            int bit = 1 << c;
            if ((peat & bit) != 0 && Ground.pieces(peat & ~bit) > pieces) {
                found |= bit;
            }
        }
        return found;
    }

    public int far(int cell, int other) throws IndexOutOfBoundsException {
        needCell(cell);
        needCell(other);
        int peat = now.peatCells();
        int reached = peat & 1 << cell;
        for (int steps = 0; steps < CELLS; steps++) {
            if ((reached >> other & 1) == 1) {
                return steps;
            }
            reached |= Ground.beside(reached) & peat;
        }
        return NONE;
    }

    // ---- hearths two by two ----

    public int pairs(int hearth) throws IndexOutOfBoundsException {
        if (hearth != NONE) {
            needHearth(hearth);
        }
        return matching.pair(now, hearth);
    }

    public int rests(int hearth, int other) throws IndexOutOfBoundsException, IllegalArgumentException {
        needHearth(hearth);
        needHearth(other);
        if (hearth == other) {
            throw new IllegalArgumentException("both are one");
        }
        int found = 0;
        for (int choices = 0; choices < 4; choices++) {
            int mine = choices >> 1;
            int its = choices & 1;
            if (gets(hearth, other, mine, its) >= gets(hearth, other, 1 - mine, its)
                    && gets(other, hearth, its, mine) >= gets(other, hearth, 1 - its, mine)) {
                found |= 1 << choices;
            }
        }
        return found;
    }

    private int gets(int hearth, int other, int mine, int its) {
        if (mine == 0) {
            return its == 0 ? now.hands[hearth] - now.hands[other] : now.hands[hearth];
        }
        return its == 0 ? 0 - now.lacks(hearth) / 10 : now.sun - 5;
    }

    public int odds(int n, int k) throws IllegalArgumentException {
        needDays(n, 0, 5);
        needDays(k, 0, 5);
        long wetEnough = 0;
        long choose = 1;
        for (int wet = 0; wet <= n; wet++) {
            if (wet >= k) {
                wetEnough += choose * power(now.shower, wet) * power(100 - now.shower, n - wet);
            }
            choose = choose * (n - wet) / (wet + 1);
        }
        return (int) (wetEnough * 10000 / HUNDREDS[n]);
    }

    private static long power(long base, int times) {
        long product = 1;
        for (int i = 0; i < times; i++) {
            product *= base;
        }
        return product;
    }

    // ---- the most, the least, the like ----

    public int deepest() {
        return State.firstOfMost(now.depth, CELLS);
    }

    public int wettest() {
        return State.firstOfMost(now.water, CELLS);
    }

    public int richest() {
        return now.hearths == 0 ? NONE : State.firstOfMost(now.store, now.hearths);
    }

    public int cold() {
        int found = 0;
        for (int h = 0; h < now.hearths; h++) {
            if (now.lacks(h) > 0) {
                found |= 1 << h;
            }
        }
        return found;
    }

    public int twins() {
        int found = 0;
        for (int h = 0; h < now.hearths; h++) {
            for (int g = h + 1; g < now.hearths; g++) {
                if (now.hands[h] == now.hands[g] && now.need[h] == now.need[g]) {
                    found++;
                }
            }
        }
        return found;
    }

    public int waste() {
        int owned = 0;
        for (int h = 0; h < now.hearths; h++) {
            owned |= now.rights[h];
        }
        return now.peatCells() & ~owned;
    }

    public int staged(int stage) throws IndexOutOfBoundsException {
        if (stage < 0 || stage > 2) {
            throw new IndexOutOfBoundsException("there is no such stage");
        }
        int found = 0;
        for (int c = 0; c < CELLS; c++) {
            if (now.stage[c] == stage) {
                found += now.turves[c];
            }
        }
        return found;
    }

    // ---- days ahead ----

    public int ahead(int cell, int n, int what)
            throws IndexOutOfBoundsException, IllegalArgumentException, NoSuchElementException {
        needCell(cell);
        needDays(n, 0, MOST_AHEAD);
        if (what < 0 || what > 3) {
            throw new NoSuchElementException("nothing such is told of days ahead");
        }
        draft.copyFrom(now);
        for (int i = 0; i < n; i++) {
            draft.passDay();
        }
        switch (what) {
            case 0: return draft.depth[cell];
            case 1: return draft.water[cell];
            case 2: return draft.turves[cell];
            default: return draft.dry[cell];
        }
    }

    public int trial(int n, boolean open) throws IllegalArgumentException {
        needDays(n, 0, MOST_AHEAD);
        tryDays(n, now.seed);
        return open ? Integer.bitCount(draft.openCells()) : State.sum(draft.turves);
    }

    public int span(int n, boolean most) throws IllegalArgumentException {
        needDays(n, 0, MOST_AHEAD);
        int found = NONE;
        for (int seed = 1; seed <= 6; seed++) {
            tryDays(n, seed);
            int depth = State.sum(draft.depth);
            if (found == NONE) {
                found = depth;
            } else {
                found = most ? Math.max(found, depth) : Math.min(found, depth);
            }
        }
        return found;
    }

    /** The draft is as all would be so many days on, with draws from a seed. */
    private void tryDays(int n, int seed) {
        draft.copyFrom(now);
        draft.seed = seed;
        for (int i = 0; i < n; i++) {
            draft.drawSky();
            draft.passDay();
        }
    }

    // ---- the log, the seed, going back ----

    public int led(int hearth, boolean day) throws IndexOutOfBoundsException {
        needHearth(hearth);
        int found = 0;
        for (int ago = 0; ago < now.log.rows; ago++) {
            if (now.log.told(ago, Log.HEARTH) == hearth) {
                if (day) {
                    return now.log.told(ago, Log.DAY);
                }
                found++;
            }
        }
        return day ? NONE : found;
    }

    public int log(int ago, int what) throws NoSuchElementException {
        if (what < 0 || what >= Log.WIDTH) {
            throw new NoSuchElementException("nothing such is told in the log");
        }
        return now.log.told(ago, what);
    }

    public int seed(int n) {
        int was = now.seed;
        now.seed = n;
        return was;
    }

    public boolean undo() {
        if (acts == 0) {
            return false;
        }
        acts--;
        now.copyFrom(past[acts]);
        return true;
    }

    public void image() {
        kept.copyFrom(now);
        isKept = true;
    }

    public boolean back() {
        if (!isKept) {
            return false;
        }
        now.copyFrom(kept);
        acts = 0;
        return true;
    }

    public int count(int what) {
        switch (what) {
            case 0: return now.hearths;
            case 1: return now.texts;
            case 2: return now.law == null ? NONE : now.law.lines;
            case 3: return now.sun;
            case 4: return now.shower;
            case 5: return oneIf(now.rain);
            case 6: return now.day;
            case 7: return State.sum(now.depth);
            case 8: return State.sum(now.turves);
            case 9: return State.sum(now.store);
            case 10: return Integer.bitCount(now.drains);
            case 11: return now.log.rows;
            case 12: return acts;
            default: return NONE;
        }
    }

    /** Sets of cells as bits: which lie beside one another and which hang together. */
    private static final class Ground {
        static int beside(int cells) {
            int leftAndRight = (cells & ~LEFT_EDGE) >> 1 | (cells & ~RIGHT_EDGE) << 1;
            return (leftAndRight | cells >> SIDE | cells << SIDE) & ALL_CELLS;
        }

        /** All that is come to from some cells by cells that are within. */
        static int spread(int from, int within) {
            int reached = from;
            for (int i = 0; i < CELLS; i++) {
                int more = reached | beside(reached) & within;
                if (more == reached) {
                    break;
                }
                reached = more;
            }
            return reached;
        }

        static int pieces(int cells) {
            int left = cells;
            int found = 0;
            for (int i = 0; i < CELLS && left != 0; i++) {
                left &= ~spread(left & -left, left);
                found++;
            }
            return found;
        }

        static int letting(int drained) {
            return drained | beside(drained);
        }

        /** The cell beside one on a way of 0 to 3: left, right, up, down; NONE at the edge. */
        static int neighbour(int cell, int way) {
            int x = cell % SIDE;
            switch (way) {
                case 0: return x > 0 ? cell - 1 : NONE;
                case 1: return x < SIDE - 1 ? cell + 1 : NONE;
                case 2: return cell >= SIDE ? cell - SIDE : NONE;
                default: return cell < CELLS - SIDE ? cell + SIDE : NONE;
            }
        }
    }

    /** All that an act changes or an image keeps. */
    private static final class State {
        final int[] depth = new int[CELLS];
        final int[] water = new int[CELLS];
        final int[] turves = new int[CELLS];
        final int[] dry = new int[CELLS];
        final int[] stage = new int[CELLS];
        final int[] hands = new int[MOST_HEARTHS];
        final int[] need = new int[MOST_HEARTHS];
        final int[] store = new int[MOST_HEARTHS];
        final int[] rights = new int[MOST_HEARTHS];
        final Log log = new Log();
        int hearths = 0;
        int drains = 0;
        int sun = 5;
        int shower = 0;
        boolean rain = false;
        int day = 0;
        int seed = 1;
        int texts = 0;
        Law law = null;

        State() {
            Arrays.fill(water, 5);
        }

        void copyFrom(State other) {
            System.arraycopy(other.depth, 0, depth, 0, CELLS);
            System.arraycopy(other.water, 0, water, 0, CELLS);
            System.arraycopy(other.turves, 0, turves, 0, CELLS);
            System.arraycopy(other.dry, 0, dry, 0, CELLS);
            System.arraycopy(other.stage, 0, stage, 0, CELLS);
            System.arraycopy(other.hands, 0, hands, 0, MOST_HEARTHS);
            System.arraycopy(other.need, 0, need, 0, MOST_HEARTHS);
            System.arraycopy(other.store, 0, store, 0, MOST_HEARTHS);
            System.arraycopy(other.rights, 0, rights, 0, MOST_HEARTHS);
            log.copyFrom(other.log);
            hearths = other.hearths;
            drains = other.drains;
            sun = other.sun;
            shower = other.shower;
            rain = other.rain;
            day = other.day;
            seed = other.seed;
            texts = other.texts;
            law = other.law;
        }

        static int sum(int[] row) {
            int all = 0;
            for (int value : row) {
                all += value;
            }
            return all;
        }

        static int firstOfMost(int[] row, int length) {
            int best = 0;
            for (int i = 1; i < length && i < row.length; i++) {
                if (row[i] > row[best]) {
                    best = i;
                }
            }
            return best;
        }

        int drainedCells() {
            return Ground.spread(drains & 1 << OUTFALL, drains);
        }

        int peatCells() {
            int found = 0;
            for (int c = 0; c < CELLS; c++) {
                if (depth[c] > 0) {
                    found |= 1 << c;
                }
            }
            return found;
        }

        boolean isOpen(int cell) {
            return depth[cell] > 0 && water[cell] <= 3 && turves[cell] < 90;
        }

        int openCells() {
            int found = 0;
            for (int c = 0; c < CELLS; c++) {
                if (isOpen(c)) {
                    found |= 1 << c;
                }
            }
            return found;
        }

        boolean hasRight(int hearth, int cell) {
            return (rights[hearth] >> cell & 1) == 1;
        }

        int owners(int cell) {
            int found = 0;
            for (int h = 0; h < hearths; h++) {
                if (hasRight(h, cell)) {
                    found |= 1 << h;
                }
            }
            return found;
        }

        int lacks(int hearth) {
            return Math.max(need[hearth] - store[hearth], 0);
        }

        int firstOpen(int hearth) {
            for (int c = 0; c < CELLS; c++) {
                if (hasRight(hearth, c) && isOpen(c)) {
                    return c;
                }
            }
            return NONE;
        }

        int gain(int cell, int drained) {
            int plain = rain ? stage[cell] - 3 : sun + 2 * stage[cell];
            if (law == null) {
                return plain;
            }
            return plain + law.total(Law.DRY, this, cell, drained) - law.total(Law.SOAK, this, cell, drained);
        }

        int sinks(int cell, int drained) {
            return law == null ? water[cell] : water[cell] + law.total(Law.SINK, this, cell, drained);
        }

        void addToStore(int hearth, int n) {
            store[hearth] = Math.min(store[hearth] + n, MOST_STORE);
        }

        void cutAt(int hearth, int cell, int kind) {
            int lay = turves[cell];
            int then = lay + hands[hearth];
            dry[cell] = then > 0 ? dry[cell] * lay / then : 0;
            stage[cell] = 0;
            turves[cell] = then;
            depth[cell]--;
            log.write(day, hearth, cell, kind, hands[hearth]);
        }

        void cartHome(int hearth, int cell) {
            log.write(day, hearth, cell, KIND_CART, turves[cell]);
            addToStore(hearth, turves[cell]);
            turves[cell] = 0;
            dry[cell] = 0;
            stage[cell] = 0;
        }

        private int nextDraw() {
            seed = 1103515245 * seed + 12345;
            return seed >>> 16 & 32767;
        }

        void drawSky() {
            sun = nextDraw() % 10;
            rain = nextDraw() % 100 < shower;
        }

        /** A day more but for its sky: how often a hearth cut. */
        int passDay() {
            int drained = drainedCells();
            int letting = Ground.letting(drained);
            for (int c = 0; c < CELLS; c++) {
                int level = water[c] + (rain ? 1 : 0) - (letting >> c & 1) - (drained >> c & 1);
                water[c] = Math.max(0, Math.min(9, level));
            }
            for (int c = 0; c < CELLS; c++) {
                if (turves[c] > 0) {
                    dry[c] = Math.max(0, Math.min(99, dry[c] + gain(c, drained)));
                }
            }
            int cuts = 0;
            for (int h = 0; h < hearths; h++) {
                int cell = store[h] < need[h] ? firstOpen(h) : NONE;
                if (cell != NONE) {
                    cutAt(h, cell, KIND_DAY);
                    cuts++;
                }
            }
            day = Math.min(day + 1, 9999);
            return cuts;
        }
    }

    /** The latest sixty rows, the oldest of them written over by the next. */
    private static final class Log {
        static final int DAY = 0;
        static final int HEARTH = 1;
        static final int WIDTH = 5;
        private static final int MOST_ROWS = 60;

        private final int[] values = new int[MOST_ROWS * WIDTH];
        private int next = 0;
        int rows = 0;

        void copyFrom(Log other) {
            System.arraycopy(other.values, 0, values, 0, MOST_ROWS * WIDTH);
            next = other.next;
            rows = other.rows;
        }

        void write(int day, int hearth, int cell, int kind, int turves) {
            int at = next * WIDTH;
            values[at] = day;
            values[at + 1] = hearth;
            values[at + 2] = cell;
            values[at + 3] = kind;
            values[at + 4] = turves;
            next = (next + 1) % MOST_ROWS;
            rows = Math.min(rows + 1, MOST_ROWS);
        }

        int told(int ago, int what) {
            if (ago < 0 || ago >= rows) {
                return NONE;
            }
            int row = (next + MOST_ROWS - 1 - ago) % MOST_ROWS;
            return values[row * WIDTH + what];
        }
    }

    /** Reads things off the tape; what cannot stand is not taken, so that its begin stays the place. */
    private static final class Reader {
        private final int[] text;
        private int length = 0;
        int place = 0;

        Reader(int[] text) {
            this.text = text;
        }

        void start(int textLength) {
            length = Math.min(textLength, text.length);
            goOn(0);
        }

        private void goOn(int to) {
            int at = to;
            while (at < length && text[at] == 32) {
                at++;
            }
            place = at;
        }

        boolean isDone() {
            return place >= length;
        }

        boolean isAtDigit() {
            return place < length && text[place] >= '0' && text[place] <= '9';
        }

        boolean takeSign(char sign) {
            if (place >= length || text[place] != sign) {
                return false;
            }
            goOn(place + 1);
            return true;
        }

        boolean takeWord(String word) {
            return takeOneOf(word) == 0;
        }

        /** Which word of a list (parted by one blank each) stands here; NONE, if none of them does. */
        int takeOneOf(String words) {
            int size = 0;
            while (place + size < length && text[place + size] >= 'a' && text[place + size] <= 'z') {
                size++;
            }
            int which = 0;
            int same = 0;
            for (int i = 0; i <= words.length(); i++) {
                char sign = i < words.length() ? words.charAt(i) : ' ';
                if (sign != ' ') {
                    same = same >= 0 && same < size && text[place + same] == sign ? same + 1 : NONE;
                } else if (same == size && size > 0) {
                    goOn(place + size);
                    return which;
                } else {
                    which++;
                    same = 0;
                }
            }
            return NONE;
        }

        /** A number of 1 to 3 digits within its bounds; NONE, if none such stands here. */
        int takeNumber(int least, int most) {
            int value = 0;
            int at = place;
            while (at < length && text[at] >= '0' && text[at] <= '9' && at - place < 4) {
                value = 10 * value + text[at] - '0';
                at++;
            }
            int digits = at - place;
            if (digits < 1 || digits > 3 || value < least || value > most) {
                return NONE;
            }
            goOn(at);
            return value;
        }
    }

    /** A text of the bog, read into a draft. */
    private static final class BogText {
        private static final int MOST_LINES = 14;
        private static final int MOST_LISTED = 8;

        private final Reader reader;
        private final State draft;

        BogText(Reader reader, State draft) {
            this.reader = reader;
            this.draft = draft;
        }

        boolean readAll() {
            if (reader.isDone()) {
                return true;
            }
            for (int i = 0; i < MOST_LINES; i++) {
                if (!readLine()) {
                    return false;
                }
                if (reader.isDone()) {
                    return true;
                }
                if (!reader.takeSign(';')) {
                    return false;
                }
            }
            return false;
        }

        private boolean readLine() {
            int begin = reader.place;
            int kind = reader.takeOneOf("peat water drain turves hearth right sun shower rain day");
            switch (kind) {
                case 0: return readRow(draft.depth);
                case 1: return readRow(draft.water);
                case 2: return readDrains();
                case 3: return readTurves();
                case 4: return readHearth(begin);
                case 5: return readRights();
                default: return readSky(kind);
            }
        }

        private boolean readSky(int kind) {
            if (kind == 8) {
                draft.rain = true;
                return true;
            }
            if (kind != 6 && kind != 7 && kind != 9) {
                return false;
            }
            int value = reader.takeNumber(0, kind == 6 ? 9 : kind == 7 ? 100 : 999);
            if (value == NONE) {
                return false;
            }
            if (kind == 6) {
                draft.sun = value;
            } else if (kind == 7) {
                draft.shower = value;
            } else {
                draft.day = value;
            }
            return true;
        }

        private boolean readRow(int[] row) {
            int first = reader.takeNumber(0, CELLS - 1);
            if (first == NONE) {
                return false;
            }
            for (int c = first; c < CELLS; c++) {
                int value = reader.takeNumber(0, 9);
                if (value == NONE) {
                    return false;
                }
                row[c] = value;
                if (!reader.isAtDigit()) {
                    return true;
                }
            }
            return false;
        }

        /** Cells as bits, at least one; NONE, if they are wrong. */
        private int readCells() {
            int cells = 0;
            for (int i = 0; i < MOST_LISTED; i++) {
                int cell = reader.takeNumber(0, CELLS - 1);
                if (cell == NONE) {
                    return NONE;
                }
                cells |= 1 << cell;
                if (!reader.isAtDigit()) {
                    return cells;
                }
            }
            return NONE;
        }

        private boolean readDrains() {
            int cells = readCells();
            if (cells == NONE) {
                return false;
            }
            draft.drains |= cells;
            return true;
        }

        private boolean readRights() {
            int hearth = reader.takeNumber(0, draft.hearths - 1);
            if (hearth == NONE) {
                return false;
            }
            int cells = readCells();
            if (cells == NONE) {
                return false;
            }
            draft.rights[hearth] |= cells;
            return true;
        }

        private boolean readTurves() {
            int cell = reader.takeNumber(0, CELLS - 1);
            if (cell == NONE) {
                return false;
            }
            int turves = reader.takeNumber(1, 99);
            if (turves == NONE) {
                return false;
            }
            int dry = reader.takeWord("dry") ? reader.takeNumber(0, 99) : 0;
            if (dry == NONE) {
                return false;
            }
            draft.turves[cell] = turves;
            draft.dry[cell] = dry;
            draft.stage[cell] = 0;
            return true;
        }

        private boolean readHearth(int begin) {
            int hearth = draft.hearths;
            if (hearth >= MOST_HEARTHS) {
                // One too many is wrong at its first word, which was taken already.
                reader.place = begin;
                return false;
            }
            int hands = reader.takeWord("hands") ? reader.takeNumber(1, 9) : NONE;
            if (hands == NONE) {
                return false;
            }
            int need = reader.takeWord("need") ? reader.takeNumber(0, 99) : NONE;
            if (need == NONE) {
                return false;
            }
            int store = reader.takeWord("store") ? reader.takeNumber(0, MOST_STORE) : 0;
            if (store == NONE) {
                return false;
            }
            draft.hands[hearth] = hands;
            draft.need[hearth] = need;
            draft.store[hearth] = store;
            draft.hearths = hearth + 1;
            return true;
        }
    }

    /** A text of the law, read into the code that a law is made of: each sum and condition behind its parts. */
    private static final class LawText {
        private static final int MOST_LINES = 12;
        private static final int MOST_DEEP = 6;

        private final Reader reader;
        final int[] kinds = new int[MOST_LINES];
        final int[] amounts = new int[MOST_LINES];
        final int[] begins = new int[MOST_LINES + 1];
        final int[] code = new int[MOST_TAPE];
        int lines = 0;
        int size = 0;

        LawText(Reader reader) {
            this.reader = reader;
        }

        boolean readAll() {
            lines = 0;
            size = 0;
            if (reader.isDone()) {
                return true;
            }
            for (int i = 0; i < MOST_LINES; i++) {
                if (!readHead(i) || reader.takeWord("if") && !readAny(0)) {
                    return false;
                }
                lines = i + 1;
                begins[lines] = size;
                if (reader.isDone()) {
                    return true;
                }
                if (!reader.takeSign(';')) {
                    return false;
                }
            }
            return false;
        }

        private boolean readHead(int line) {
            int kind = reader.takeOneOf("dry soak sink");
            int amount = kind == NONE ? NONE : reader.takeNumber(0, 20);
            if (amount == NONE) {
                return false;
            }
            kinds[line] = kind;
            amounts[line] = amount;
            return true;
        }

        private void put(int sign) {
            if (size < code.length) {
                code[size] = sign;
                size++;
            }
        }

        private boolean readAny(int deep) {
            if (!readEvery(deep)) {
                return false;
            }
            for (int i = 0; i < MOST_TAPE && reader.takeWord("or"); i++) {
                if (!readEvery(deep)) {
                    return false;
                }
                put(Law.OR);
            }
            return true;
        }

        private boolean readEvery(int deep) {
            if (!readAtom(deep)) {
                return false;
            }
            for (int i = 0; i < MOST_TAPE && reader.takeWord("and"); i++) {
                if (!readAtom(deep)) {
                    return false;
                }
                put(Law.AND);
            }
            return true;
        }

        /** One that is too deep is not taken, and so is wrong where it begins. */
        private boolean readAtom(int deep) {
            if (deep < MOST_DEEP && reader.takeWord("not")) {
                if (!readAtom(deep + 1)) {
                    return false;
                }
                put(Law.NOT);
                return true;
            }
            if (deep < MOST_DEEP && reader.takeSign('(')) {
                return readAny(deep + 1) && reader.takeSign(')');
            }
            int fact = reader.takeOneOf("drained rain laid");
            if (fact != NONE) {
                put(Law.FACTS + fact);
                return true;
            }
            if (!readSum()) {
                return false;
            }
            int than = reader.takeSign('<') ? Law.LESS : reader.takeSign('>') ? Law.MORE : NONE;
            if (than == NONE || !readSum()) {
                return false;
            }
            put(than);
            return true;
        }

        private boolean readSum() {
            for (int i = 0; i < MOST_TAPE; i++) {
                if (reader.isAtDigit()) {
                    int number = reader.takeNumber(0, 999);
                    if (number == NONE) {
                        return false;
                    }
                    put(number);
                } else {
                    int part = reader.takeOneOf("cell x y depth water turves sun");
                    if (part == NONE) {
                        return false;
                    }
                    put(Law.PARTS + part);
                }
                if (i > 0) {
                    put(Law.ADD);
                }
                if (!reader.takeSign('+')) {
                    return true;
                }
            }
            return false;
        }
    }

    /** A law as it was read: its lines never change, so that states and the image may share it. */
    private static final class Law {
        static final int DRY = 0;
        static final int SOAK = 1;
        static final int SINK = 2;

        // Codes below PARTS are numbers.
        static final int PARTS = 1000;
        static final int FACTS = 1007;
        static final int NOT = 1010;
        static final int ADD = 1011;
        static final int LESS = 1012;
        static final int MORE = 1013;
        static final int AND = 1014;
        static final int OR = 1015;

        final int lines;
        private final int[] kinds;
        private final int[] amounts;
        private final int[] begins;
        private final int[] code;
        private final int[] stack;

        Law(LawText text) {
            lines = text.lines;
            kinds = Arrays.copyOf(text.kinds, text.lines);
            amounts = Arrays.copyOf(text.amounts, text.lines);
            begins = Arrays.copyOf(text.begins, text.lines + 1);
            code = Arrays.copyOf(text.code, text.size);
            // Each code puts one value there at most, so this is always enough.
            stack = new int[text.size + 1];
        }

        int total(int kind, State state, int cell, int drained) {
            int sum = 0;
            for (int i = 0; i < lines; i++) {
                if (kinds[i] == kind && holds(i, state, cell, drained)) {
                    sum += amounts[i];
                }
            }
            return sum;
        }

        /** A line without a condition has no code and holds. */
        private boolean holds(int line, State state, int cell, int drained) {
            int top = 0;
            for (int i = begins[line]; i < begins[line + 1]; i++) {
                int sign = code[i];
                if (sign < NOT) {
                    stack[top] = sign < PARTS ? sign : value(sign, state, cell, drained);
                    top++;
                } else if (sign == NOT && top > 0) {
                    stack[top - 1] = 1 - stack[top - 1];
                } else if (top > 1) {
                    top--;
                    stack[top - 1] = join(sign, stack[top - 1], stack[top]);
                }
            }
            return top == 0 || stack[0] != 0;
        }

        private static int value(int sign, State state, int cell, int drained) {
            switch (sign - PARTS) {
                case 0: return cell;
                case 1: return cell % SIDE;
                case 2: return cell / SIDE;
                case 3: return state.depth[cell];
                case 4: return state.water[cell];
                case 5: return state.turves[cell];
                case 6: return state.sun;
                case 7: return drained >> cell & 1;
                case 8: return state.rain ? 1 : 0;
                default: return state.turves[cell] > 0 ? 1 : 0;
            }
        }

        private static int join(int sign, int left, int right) {
            switch (sign) {
                case ADD: return left + right;
                case LESS: return left < right ? 1 : 0;
                case MORE: return left > right ? 1 : 0;
                case AND: return left & right;
                default: return left | right;
            }
        }
    }

    /** The fewest drains, and the ways of carts. */
    private static final class Ways {
        static final int MOST_TOLD = 4;
        private static final int UNKNOWN = 1000000;
        // A way's rank is its sinks times this and its steps: no way has more steps than cells.
        private static final int PER_SINK = 32;

        private final int[] ranks = new int[CELLS];
        private final int[] sinks = new int[CELLS];
        private final int[][] nets = new int[1 << MOST_TOLD][CELLS];

        /** Each round digs one cell further from all that is drained by then, and goes on by drains that are there. */
        static int ditch(int drains, int cell) {
            int reached = Ground.spread(drains & 1 << OUTFALL, drains);
            for (int dug = 0; dug <= CELLS; dug++) {
                if ((reached >> cell & 1) == 1) {
                    return dug;
                }
                reached = Ground.spread(reached | Ground.beside(reached) | 1 << OUTFALL, drains);
            }
            return NONE;
        }

        int leastSinks(State state, int cell) {
            rankAll(state);
            return ranks[cell] / PER_SINK;
        }

        int fewestSteps(State state, int cell) {
            rankAll(state);
            return ranks[cell] % PER_SINK;
        }

        private void rankAll(State state) {
            int drained = state.drainedCells();
            for (int c = 0; c < CELLS; c++) {
                sinks[c] = state.sinks(c, drained);
                ranks[c] = c < SIDE ? sinks[c] * PER_SINK : UNKNOWN;
            }
            boolean better = true;
            for (int round = 0; round < CELLS && better; round++) {
                better = false;
                for (int c = SIDE; c < CELLS; c++) {
                    int rank = leastBeside(ranks, c) + sinks[c] * PER_SINK + 1;
                    if (rank < ranks[c]) {
                        ranks[c] = rank;
                        better = true;
                    }
                }
            }
        }

        private static int leastBeside(int[] row, int cell) {
            int least = UNKNOWN;
            for (int way = 0; way < 4; way++) {
                int next = Ground.neighbour(cell, way);
                if (next != NONE) {
                    least = Math.min(least, row[next]);
                }
            }
            return least;
        }

        /** For each set of told cells, and each cell: the fewest drains by which both hang together. */
        int fewestDrains(int drains, int[] told, int n) {
            if (n < 1 || n > MOST_TOLD) {
                return 0;
            }
            int sets = 1 << n;
            for (int set = 1; set < sets; set++) {
                int[] row = nets[set];
                Arrays.fill(row, UNKNOWN);
                for (int i = 0; i < n; i++) {
                    if (set == 1 << i) {
                        row[told[i]] = 1 - (drains >> told[i] & 1);
                    }
                }
                joinParts(set, drains);
                growNet(row, drains);
            }
            return nets[sets - 1][OUTFALL];
        }

        private void joinParts(int set, int drains) {
            int[] row = nets[set];
            for (int part = 1; part < set; part++) {
                for (int c = 0; c < CELLS && (part & set) == part; c++) {
                    // The cell where both parts meet is given its drain once.
                    int both = nets[part][c] + nets[set ^ part][c] - (1 - (drains >> c & 1));
                    row[c] = Math.min(row[c], both);
                }
            }
        }

        private static void growNet(int[] row, int drains) {
            boolean better = true;
            for (int round = 0; round < CELLS && better; round++) {
                better = false;
                for (int c = 0; c < CELLS; c++) {
                    int cost = leastBeside(row, c) + 1 - (drains >> c & 1);
                    if (cost < row[c]) {
                        row[c] = cost;
                        better = true;
                    }
                }
            }
        }
    }

    /** Trunks by their numbers, and how many told rows are wrong for each. */
    private static final class TrunkGuess {
        private static final int NUMBERS = 400;

        private final int[] weights = new int[CELLS];
        private final int[] holding = new int[CELLS];
        private int hits = 0;

        /** A trunk that holds no cell has all hits wrong; each cell that it holds then adds its weight. */
        void tell(int[] tape, int rows) {
            Arrays.fill(weights, 0);
            hits = 0;
            for (int i = 0; i < rows; i++) {
                boolean hit = tape[2 * i + 1] == 1;
                weights[tape[2 * i]] += hit ? -1 : 1;
                hits += hit ? 1 : 0;
            }
        }

        /** The cells of a trunk, as bits; 0, if they are not all in the bog. */
        private static int cellsOf(int number) {
            int length = number / 100 + 2;
            int way = number / 25 % 4;
            int begin = number % 25;
            int right = way == 1 ? 0 : way == 3 ? -1 : 1;
            int down = way == 0 ? 0 : 1;
            int lastX = begin % SIDE + right * (length - 1);
            int lastY = begin / SIDE + down * (length - 1);
            if (lastX < 0 || lastX >= SIDE || lastY >= SIDE) {
                return 0;
            }
            int cells = 0;
            for (int i = 0; i < length; i++) {
                cells |= 1 << begin + i * (right + SIDE * down);
            }
            return cells;
        }

        /** How many rows are wrong for a trunk; two, if there are more or it is none. */
        private int wrongRows(int cells) {
            int wrong = hits;
            for (int c = 0; c < CELLS; c++) {
                if ((cells >> c & 1) == 1) {
                    wrong += weights[c];
                }
            }
            return cells == 0 ? 2 : Math.min(wrong, 2);
        }

        int countFits() {
            int fits = 0;
            for (int number = 0; number < NUMBERS; number++) {
                if (wrongRows(cellsOf(number)) < 2) {
                    fits++;
                }
            }
            return fits;
        }

        int leastWrong() {
            int least = 2;
            int found = NONE;
            for (int number = 0; number < NUMBERS; number++) {
                int wrong = wrongRows(cellsOf(number));
                if (wrong < least) {
                    least = wrong;
                    found = number;
                }
            }
            return found;
        }

        int bestCell() {
            Arrays.fill(holding, 0);
            int fits = 0;
            for (int number = 0; number < NUMBERS; number++) {
                int cells = cellsOf(number);
                if (wrongRows(cells) < 2) {
                    fits++;
                    for (int c = 0; c < CELLS; c++) {
                        holding[c] += cells >> c & 1;
                    }
                }
            }
            int least = NUMBERS + 1;
            int found = NONE;
            for (int c = 0; c < CELLS && fits > 1; c++) {
                int greater = Math.max(holding[c], fits - holding[c]);
                if (greater < least) {
                    least = greater;
                    found = c;
                }
            }
            return found;
        }
    }

    /** How water may fall: numbers are 200 times that of day 0, 10 times the days less 1, and the least. */
    private static final class FallGuess {
        static final int DAYS = 100;
        static final int WATERS = 10;
        private static final int NUMBERS = 2000;

        private final int[] tape;
        private final int[][] changes = new int[DAYS][WATERS];
        private final int[] parts = new int[WATERS];

        FallGuess(int[] tape) {
            this.tape = tape;
        }

        private static int first(int number) {
            return number / 200;
        }

        private static int pace(int number) {
            return number / 10 % 20 + 1;
        }

        private static int least(int number) {
            return Math.min(number % 10, number / 200);
        }

        private boolean fits(int number, int rows) {
            for (int i = 0; i < rows; i++) {
                int fallen = first(number) - tape[2 * i] / pace(number);
                if (Math.max(fallen, least(number)) != tape[2 * i + 1]) {
                    return false;
                }
            }
            return true;
        }

        int firstFit(int rows) {
            for (int number = 0; number < NUMBERS; number++) {
                if (fits(number, rows)) {
                    return number;
                }
            }
            return NONE;
        }

        int countFits(int rows) {
            int found = 0;
            for (int number = 0; number < NUMBERS; number++) {
                if (fits(number, rows)) {
                    found++;
                }
            }
            return found;
        }

        int bestDay(int rows) {
            for (int day = 0; day < DAYS; day++) {
                Arrays.fill(changes[day], 0);
            }
            int found = 0;
            for (int number = 0; number < NUMBERS; number++) {
                if (fits(number, rows)) {
                    found++;
                    noteChanges(number);
                }
            }
            return found < 2 ? NONE : leastGreatest();
        }

        /** Only the days on which its water changes are noted of each: it is the same on all between. */
        private void noteChanges(int number) {
            int level = first(number);
            int pace = pace(number);
            changes[0][level]++;
            for (int day = pace; day < DAYS && level > least(number); day += pace) {
                changes[day][level]--;
                level--;
                changes[day][level]++;
            }
        }

        private int leastGreatest() {
            Arrays.fill(parts, 0);
            int least = NUMBERS + 1;
            int found = NONE;
            for (int day = 0; day < DAYS; day++) {
                int greatest = 0;
                for (int level = 0; level < WATERS; level++) {
                    parts[level] += changes[day][level];
                    greatest = Math.max(greatest, parts[level]);
                }
                if (greatest < least) {
                    least = greatest;
                    found = day;
                }
            }
            return found;
        }
    }

    /**
     * Hearths put to cells, or two by two. A way's worth is its sum times a whole, less a number whose digits say
     * where each hearth is (0 none): so the greatest worth is that of the first way of the greatest sum.
     */
    private static final class Matching {
        private static final int SETS = 64;
        private static final long CELL_WHOLE = 308915776L;
        private static final long[] CELL_DIGITS = {11881376L, 456976L, 17576L, 676L, 26L, 1L};
        private static final long PAIR_WHOLE = 117649L;
        private static final long[] PAIR_DIGITS = {16807L, 2401L, 343L, 49L, 7L, 1L};
        private static final long NO_WAY = -1L;

        private final long[] best = new long[SETS];

        /** How much is cut at most (hearth NONE), or the cell of a hearth. */
        int place(State state, int hearth) {
            Arrays.fill(best, NO_WAY);
            best[0] = 0;
            for (int c = 0; c < CELLS; c++) {
                if (state.isOpen(c)) {
                    giveCell(state, c);
                }
            }
            long most = 0;
            for (int set = 0; set < SETS; set++) {
                most = Math.max(most, best[set]);
            }
            long sum = (most + CELL_WHOLE - 1) / CELL_WHOLE;
            if (hearth < 0 || hearth >= MOST_HEARTHS) {
                return (int) sum;
            }
            return (int) ((sum * CELL_WHOLE - most) / CELL_DIGITS[hearth] % (CELLS + 1)) - 1;
        }

        /** Greater sets first, so that the cell is not given twice. */
        private void giveCell(State state, int cell) {
            for (int set = SETS - 1; set >= 0; set--) {
                for (int h = 0; h < state.hearths && best[set] != NO_WAY; h++) {
                    int with = set | 1 << h;
                    if (with != set && state.hasRight(h, cell)) {
                        long worth = best[set] + state.depth[cell] * CELL_WHOLE - (cell + 1) * CELL_DIGITS[h];
                        best[with] = Math.max(best[with], worth);
                    }
                }
            }
        }

        /** How many cells pairs share at most (hearth NONE), or the other one of a hearth's pair. */
        int pair(State state, int hearth) {
            best[0] = 0;
            int sets = 1 << state.hearths;
            for (int set = 1; set < sets && set < SETS; set++) {
                best[set] = bestPairs(state, set);
            }
            long most = best[sets - 1 & SETS - 1];
            long sum = (most + PAIR_WHOLE - 1) / PAIR_WHOLE;
            if (hearth < 0 || hearth >= MOST_HEARTHS) {
                return (int) sum;
            }
            return (int) ((sum * PAIR_WHOLE - most) / PAIR_DIGITS[hearth] % (MOST_HEARTHS + 1)) - 1;
        }

        /** The first hearth of a set is alone, or in a pair with one of the others. */
        private long bestPairs(State state, int set) {
            int h = 0;
            while (h < MOST_HEARTHS - 1 && (set >> h & 1) == 0) {
                h++;
            }
            int others = set & ~(1 << h);
            long most = best[others];
            for (int g = h + 1; g < state.hearths; g++) {
                if ((others >> g & 1) == 1) {
                    int shared = Integer.bitCount(state.rights[h] & state.rights[g]);
                    long worth = best[others & ~(1 << g)] + shared * PAIR_WHOLE
                            - (g + 1) * PAIR_DIGITS[h] - (h + 1) * PAIR_DIGITS[g];
                    most = Math.max(most, worth);
                }
            }
            return most;
        }
    }
}
