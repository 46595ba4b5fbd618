import java.util.NoSuchElementException;

/** Promises 38 to 54: each sentence of the document that names a boundary case. */
public final class KeepEdgesTest {
    private static final Class<IllegalArgumentException> BAD = IllegalArgumentException.class;
    private static final Class<IndexOutOfBoundsException> NO_SUCH = IndexOutOfBoundsException.class;
    private static final Class<NoSuchElementException> NO_WHAT = NoSuchElementException.class;
    private static final int[] NO_DAYS = {-1, 61, Integer.MIN_VALUE, Integer.MAX_VALUE};

    public static void main(String[] args) {
        deepestAndWettest();
        richest();
        cold();
        twins();
        waste();
        staged();
        ahead();
        inDaysWithoutDraws();
        trial();
        span();
        led();
        ledOfSixty();
        log();
        logOfSixty();
        logUndone();
        logKinds();
        seed();
        undoTwelve();
        undoEach();
        undoAll();
        undoForgets();
        image();
        back();
        count();
        countBounds();
        Check.finish();
    }

    private static void deepestAndWettest() {
        Check.says("DEEPEST: the CELL of the most DEPTH; WETTEST: of the most WATER (of several the least, each).");
        Check.due("all of no depth", new TurfBog().deepest(), 0);
        Check.due("all of one water", new TurfBog().wettest(), 0);
        TurfBog x = Check.bog("peat 3 8 9;peat 23 9 9;water 2 8 8;water 24 8");
        Check.due("deepest of several", x.deepest(), 4);
        Check.due("wettest of several", x.wettest(), 2);
        Check.due("the last is the deepest", Check.bog("peat 23 8 9").deepest(), 24);
        Check.due("the last is the wettest", Check.bog("water 23 8 9").wettest(), 24);
        Check.due("all of no water", Check.bog("water 0" + " 0".repeat(25)).wettest(), 0);
    }

    private static void richest() {
        Check.says("RICHEST: the HEARTH of the most STORE (of several the least; none).");
        Check.says("RICHEST; NONE.");
        Check.due("without hearths", new TurfBog().richest(), -1);
        Check.due("one without a store", Check.bog("hearth hands 1 need 1").richest(), 0);
        String like = "hearth hands 1 need 1 store 998;";
        Check.due("of several the least", Check.bog(like.repeat(5) + "day 1").richest(), 0);
        Check.due("the last", Check.bog(like.repeat(5) + "hearth hands 1 need 1 store 999").richest(), 5);
    }

    private static void cold() {
        Check.says("COLD: HEARTHS that LACK something, as bits.");
        Check.due("without hearths", new TurfBog().cold(), 0);
        TurfBog x = Check.bog("hearth hands 1 need 5 store 4;hearth hands 1 need 5 store 5;hearth hands 1 need 5 store 6;"
                + "hearth hands 1 need 0;hearth hands 1 need 99 store 999;hearth hands 1 need 1");
        Check.due("those with less than they need", x.cold(), Check.bits(0, 5));
    }

    private static void twins() {
        Check.says("TWINS: pairs of HEARTHS of like HANDS and NEED.");
        Check.due("without hearths", new TurfBog().twins(), 0);
        Check.due("one", Check.bog("hearth hands 1 need 1").twins(), 0);
        Check.due("six alike are 15 pairs", Check.bog("hearth hands 1 need 1;".repeat(5) + "hearth hands 1 need 1 store 9").twins(), 15);
        Check.due("of like hands alone", Check.bog("hearth hands 1 need 1;hearth hands 1 need 2").twins(), 0);
        Check.due("of like need alone", Check.bog("hearth hands 1 need 1;hearth hands 2 need 1").twins(), 0);
        Check.due("two pairs", Check.bog("hearth hands 1 need 1;hearth hands 2 need 1;hearth hands 1 need 1;hearth hands 2 need 1").twins(), 2);
    }

    private static void waste() {
        Check.says("WASTE: CELLS of DEPTH above 0 to which nobody has a RIGHT, as bits.");
        Check.due("without peat", new TurfBog().waste(), 0);
        TurfBog x = Check.bog("peat 0" + " 1".repeat(25) + ";hearth hands 1 need 1;hearth hands 1 need 1;right 0 0 24;right 1 0 7");
        Check.due("all but three", x.waste(), (1 << 25) - 1 & ~Check.bits(0, 7, 24));
        Check.due("without hearths all of it", Check.bog("peat 24 1").waste(), 1 << 24);
        Check.due("beside six", Check.bog("peat 0 1 1;" + "hearth hands 1 need 1;".repeat(6) + "right 5 1").waste(), 1);
    }

    private static void staged() {
        Check.says("STAGED of 0 to 2: how many TURVES are of that STAGE.");
        TurfBog x = Check.bog("turves 0 99 dry 50;turves 1 98 dry 50;turves 24 97 dry 30;turves 2 1");
        x.foot(0);
        x.foot(0);
        x.foot(24);
        Check.due("spread", x.staged(0), 99);
        Check.due("footed", x.staged(1), 97);
        Check.due("ricked", x.staged(2), 99);
        Check.due("none", new TurfBog().staged(0), 0);
        for (int stage : new int[] {-1, 3, Integer.MIN_VALUE, Integer.MAX_VALUE}) {
            Check.refuses("staged(" + stage + ")", NO_SUCH, () -> x.staged(stage));
        }
    }

    // ---- days ahead ----

    private static TurfBog cutOften() {
        return Check.bog("peat 0 9 9 9 9 9 9 9 9;water 0 0 0 0 0 0 0 0 0;hearth hands 1 need 9;right 0 0 1 2 3 4 5 6 7;turves 24 5 dry 9");
    }

    private static void ahead() {
        Check.says("IN N DAYS of a CELL what 0 DEPTH, 1 WATER, 2 TURVES, 3 DRY. IllegalArgumentException: N is none (0 to 60); "
                + "NoSuchElementException: another what.");
        TurfBog x = cutOften();
        int[] now = {9, 0, 0, 0};
        int[] then = {0, 0, 9, 99};
        for (int what = 0; what < 4; what++) {
            Check.due("in 0 days " + what, x.ahead(0, 0, what), now[what]);
            Check.due("in 60 days " + what, x.ahead(0, 60, what), then[what]);
        }
        Check.due("the 60th is cut in the seventh cell", x.ahead(6, 60, 0), 3);
        Check.due("the 59th, too", x.ahead(6, 59, 0), 4);
        for (int n : NO_DAYS) {
            Check.refuses("in " + n, BAD, () -> x.ahead(0, n, 0));
            Check.refuses("in " + n + " another what", BAD, () -> x.ahead(0, n, 4));
            Check.refuses("in " + n + " of no cell", NO_SUCH, () -> x.ahead(25, n, 4));
        }
        for (int what : new int[] {-1, 4, Integer.MIN_VALUE, Integer.MAX_VALUE}) {
            Check.refuses("what " + what, NO_WHAT, () -> x.ahead(24, 60, what));
        }
    }

    private static void inDaysWithoutDraws() {
        Check.says("IN N DAYS (0 to 60): as so many DAYS without (a) (SUN and RAIN stay; no DRAWS).");
        TurfBog x = Check.bog("shower 100;sun 1;turves 0 1 dry 9;water 0 5");
        Check.due("sun stays", x.ahead(0, 60, 3), 69);
        Check.due("no rain comes", x.ahead(0, 60, 1), 5);
        x.sky(9, true);
        Check.due("rain stays", x.ahead(0, 1, 3), 6);
        Check.due("and rises", x.ahead(0, 60, 1), 9);
        Check.due("no draws", x.seed(1), 1);
        Check.due("no day went", x.count(6), 0);
    }

    private static void trial() {
        Check.says("TRIAL of N DAYS (0 to 60) from now (draws, too; nothing stays): how many TURVES lie then; "
                + "how many CELLS are OPEN then.");
        TurfBog x = cutOften();
        x.seed(7);
        String before = Check.picture(x);
        Check.says("TRIAL: how many TURVES (open false), or how many CELLS. IllegalArgumentException: N is none.");
        Check.due("turves in 0", x.trial(0, false), 5);
        Check.due("open in 0", x.trial(0, true), 8);
        Check.due("turves in 60", x.trial(60, false), 65);
        Check.due("open in 60", x.trial(60, true), 2);
        Check.due("nothing stays", Check.picture(x), before);
        for (int n : NO_DAYS) {
            Check.refuses("trial(" + n + ", false)", BAD, () -> x.trial(n, false));
            Check.refuses("trial(" + n + ", true)", BAD, () -> x.trial(n, true));
        }
        // The first draws of rain from seed 1 are 58, 15, 27; from seed 2 on they are others.
        TurfBog rain = Check.bog("peat 0 9;water 0 3;hearth hands 1 need 9;right 0 0;shower 59");
        Check.due("by the draws to come it rains first", rain.trial(1, true), 0);
        Check.put(rain, "shower 58");
        rain.bog();
        Check.due("or not", rain.trial(1, true), 1);
    }

    private static void span() {
        Check.says("SPAN: the least and the greatest DEPTH of all CELLS together so from SEED 1, 2, .. 6.");
        TurfBog x = cutOften();
        x.seed(7);
        String before = Check.picture(x);
        Check.says("SPAN: the least (most false), or the greatest. IllegalArgumentException: N is none (0 to 60).");
        Check.due("least in 0", x.span(0, false), 72);
        Check.due("most in 0", x.span(0, true), 72);
        Check.due("least in 60", x.span(60, false), 12);
        Check.due("most in 60", x.span(60, true), 12);
        Check.due("nothing stays", Check.picture(x), before);
        Check.due("of no peat", new TurfBog().span(60, true), 0);
        // By rain of 59 in a hundred: 69, and 68 by all other seeds; by 13 in a hundred 50 51 63 59 52 52.
        TurfBog rain = cutOften();
        Check.put(rain, "shower 59");
        rain.bog();
        Check.due("most by the first seed", rain.span(4, true), 69);
        Check.due("least by others", rain.span(4, false), 68);
        Check.put(rain, "shower 13");
        rain.bog();
        Check.due("least by the first seed", rain.span(22, false), 50);
        Check.due("most by the third", rain.span(22, true), 63);
        for (int n : NO_DAYS) {
            Check.refuses("span(" + n + ", false)", BAD, () -> x.span(n, false));
            Check.refuses("span(" + n + ", true)", BAD, () -> x.span(n, true));
        }
    }

    // ---- the log ----

    private static void led() {
        Check.says("LED: how many rows (day false), or the DAY; NONE.");
        TurfBog x = cutOften();
        Check.due("no rows", x.led(0, false), 0);
        Check.due("no day", x.led(0, true), -1);
        x.days(1);
        Check.due("one row", x.led(0, false), 1);
        Check.due("of day 0", x.led(0, true), 0);
        x.days(2);
        Check.due("three rows", x.led(0, false), 3);
        Check.due("of day 2", x.led(0, true), 2);
        for (int hearth : new int[] {1, -1, 6, Integer.MIN_VALUE, Integer.MAX_VALUE}) {
            Check.refuses("led(" + hearth + ", false)", NO_SUCH, () -> x.led(hearth, false));
            Check.refuses("led(" + hearth + ", true)", NO_SUCH, () -> x.led(hearth, true));
        }
    }

    private static void ledOfSixty() {
        Check.says("LED: how many rows of THE LOG are of a HEARTH; the DAY of the latest (none).");
        TurfBog x = cutOften();
        Check.put(x, "hearth hands 1 need 0;right 1 0");
        x.bog();
        x.cut(1, 0);
        x.days(59);
        Check.due("its row is the oldest of sixty", x.led(1, false), 1);
        Check.due("of day 0", x.led(1, true), 0);
        x.days(1);
        Check.due("it is gone", x.led(1, false), 0);
        Check.due("and its day", x.led(1, true), -1);
        Check.due("all are of the other one", x.led(0, false), 60);
        Check.due("to the latest", x.led(0, true), 59);
    }

    private static void log() {
        Check.says("THE LOG so many ago (0 the latest) what 0 DAY, 1 the HEARTH, 2 the CELL, 3 0 to 2, 4 how many TURVES; "
                + "NONE without. NoSuchElementException: another what.");
        TurfBog x = cutOften();
        Check.due("without any", x.log(0, 0), -1);
        x.days(2);
        Check.due("the latest", x.log(0, 0), 1);
        Check.due("the one before", x.log(1, 0), 0);
        for (int ago : new int[] {2, 59, 60, -1, Integer.MIN_VALUE, Integer.MAX_VALUE}) {
            Check.due("log(" + ago + ", 0)", x.log(ago, 0), -1);
            Check.refuses("log(" + ago + ", 5)", NO_WHAT, () -> x.log(ago, 5));
        }
        for (int what : new int[] {-1, 5, Integer.MIN_VALUE, Integer.MAX_VALUE}) {
            Check.refuses("log(0, " + what + ")", NO_WHAT, () -> x.log(0, what));
        }
        Check.due("the last what", x.log(0, 4), 1);
    }

    private static void logOfSixty() {
        Check.says("THE LOG: the latest 60 times that a HEARTH CUT on a DAY (0), by hand (1), carted (2)");
        TurfBog x = cutOften();
        x.days(59);
        Check.due("59", x.count(11), 59);
        Check.due("the oldest of 59", x.log(58, 0), 0);
        Check.due("none before", x.log(59, 0), -1);
        x.days(1);
        Check.due("60", x.count(11), 60);
        Check.due("the oldest of 60", x.log(59, 0), 0);
        x.days(1);
        Check.due("60 still", x.count(11), 60);
        Check.due("the oldest is the second", x.log(59, 0), 1);
        Check.due("none before", x.log(60, 0), -1);
        x.days(60);
        Check.due("the latest of 72", x.log(0, 0), 71);
        Check.due("the oldest of these", x.log(59, 0), 12);
        for (int ago = 0; ago < 60; ago++) {
            Check.due("in its order, " + ago, x.log(ago, 0), 71 - ago);
        }
    }

    private static void logUndone() {
        Check.says("all is as ahead of it");
        TurfBog x = cutOften();
        Check.put(x, "peat 8 9 9 9 9 9 9 9 9;water 8 0 0 0 0 0 0 0 0;right 0 8 9 10 11 12 13 14 15");
        x.bog();
        x.days(60);
        x.image();
        x.days(60);
        Check.due("the latest of 120", x.log(0, 0), 119);
        Check.due("the oldest of these", x.log(59, 0), 60);
        x.undo();
        for (int ago = 0; ago < 60; ago++) {
            Check.due("undone, " + ago, x.log(ago, 0), 59 - ago);
        }
        x.days(60);
        x.back();
        for (int ago = 0; ago < 60; ago++) {
            Check.due("gone back, " + ago, x.log(ago, 0), 59 - ago);
        }
    }

    private static void logKinds() {
        Check.says("DAY, the HEARTH, the CELL, 0 to 2, how many TURVES (of a CUT its HANDS, of a cart all that lay there).");
        TurfBog x = Check.bog("day 9;peat 4 2;water 4 0;turves 4 90 dry 99;hearth hands 9 need 1;hearth hands 9 need 99 store 9;"
                + "hearth hands 5 need 1 store 950;right 2 4;right 1 4");
        x.cart(2, 4);
        x.days(1);
        x.cut(2, 4);
        int[][] due = {{10, 2, 4, 1, 5}, {9, 1, 4, 0, 9}, {9, 2, 4, 2, 90}};
        for (int ago = 0; ago < due.length; ago++) {
            for (int what = 0; what < 5; what++) {
                Check.due("log(" + ago + ", " + what + ")", x.log(ago, what), due[ago][what]);
            }
        }
    }

    // ---- going back ----

    private static void seed() {
        Check.says("SEED: what it was.");
        TurfBog x = new TurfBog();
        int was = 1;
        for (int n : new int[] {0, -1, Integer.MAX_VALUE, Integer.MIN_VALUE, 1}) {
            Check.due("seed(" + n + ")", x.seed(n), was);
            was = n;
        }
        Check.due("no act", x.count(12), 0);
    }

    private static void undoTwelve() {
        Check.says("UNDONE: the latest ACT not undone yet (12 are remembered; DAYS of one call are one)");
        TurfBog x = new TurfBog();
        Check.due("none", x.undo(), false);
        for (int i = 0; i < 13; i++) {
            x.days(60);
        }
        Check.due("12", x.count(12), 12);
        for (int i = 12; i > 0; i--) {
            Check.due("one is undone", x.undo(), true);
            Check.due("the day ahead of it", x.count(6), 60 * i);
            Check.due("one fewer", x.count(12), i - 1);
        }
        Check.due("the 13th is not remembered", x.undo(), false);
        Check.due("so one stays", x.count(6), 60);
        for (int i = 0; i < 40; i++) {
            x.dig(i % 25);
            x.block(i % 25);
        }
        Check.due("80 acts leave 12", x.count(12), 12);
        x.undo();
        Check.due("the last block undone", x.count(10), 1);
        x.dig(0);
        Check.due("an act behind one undone", x.count(12), 12);
    }

    private static void undoEach() {
        Check.says("all is as ahead of it (but for the TAPE, fault(), THE IMAGE).");
        for (int act = 0; act < 9; act++) {
            TurfBog x = manyThings();
            String before = Check.picture(x);
            doAct(x, act);
            Check.due("act " + act + " is one", x.count(12), 2);
            x.seed(99);
            Check.due("act " + act + " is undone", x.undo(), true);
            Check.due("all is as ahead of act " + act, Check.picture(x), before);
        }
    }

    private static TurfBog manyThings() {
        TurfBog x = Check.bog("peat 0 5 5 5;water 0 1 1 1;turves 1 9 dry 70;turves 2 9 dry 30;hearth hands 3 need 9;"
                + "hearth hands 4 need 9 store 9;right 0 0 1 2;right 1 1;drain 24 19;shower 40;sun 6;day 3");
        Check.law(x, "dry 3 if laid;sink 1");
        x.cut(0, 0);
        x.seed(77);
        return x;
    }

    private static void doAct(TurfBog x, int act) {
        switch (act) {
            case 0: x.days(60); break;
            case 1: x.cut(0, 1); break;
            case 2: x.foot(2); break;
            case 3: x.cart(1, 1); break;
            case 4: x.dig(5); break;
            case 5: x.block(24); break;
            case 6: x.right(0, 2, false); break;
            case 7: x.trade(1, 0, 9); break;
            default: x.sky(0, true); break;
        }
    }

    private static void undoAll() {
        Check.says("(but for the TAPE, fault(), THE IMAGE)");
        TurfBog x = new TurfBog();
        x.dig(3);
        Check.put(x, "otter");
        Check.refuses("a wrong text", BAD, x::bog);
        Check.put(x, "day 7");
        x.image();
        x.undo();
        Check.due("the tape stays", Check.tapeHas(x, 5), true);
        Check.due("fault() stays", x.fault(), 0);
        Check.due("the drain does not", x.count(10), 0);
        Check.due("the image stays", x.back(), true);
        Check.due("with the drain", x.count(10), 1);
        Check.due("the tape stays", x.bog(), 1);
    }

    private static void undoForgets() {
        Check.says("A text, going back: none are remembered.");
        TurfBog x = new TurfBog();
        x.dig(1);
        x.bog();
        Check.due("by a text of the bog", x.count(12), 0);
        Check.due("none to be undone", x.undo(), false);
        x.dig(2);
        x.law();
        Check.due("by a law", x.undo(), false);
        x.dig(3);
        x.image();
        Check.due("not by an image", x.count(12), 1);
        x.dig(4);
        x.back();
        Check.due("by going back", x.undo(), false);
        Check.due("to three drains", x.count(10), 3);
        x.dig(5);
        Check.put(x, "otter");
        Check.refuses("a wrong text", BAD, x::bog);
        Check.put(x, "otter");
        Check.refuses("a wrong law", BAD, x::law);
        Check.due("not by what throws", x.undo(), true);
    }

    private static void image() {
        Check.says("THE IMAGE (one) of all may be kept, and gone back to (but for the TAPE, fault() and THE IMAGE itself).");
        TurfBog x = manyThings();
        String before = Check.picture(x);
        x.image();
        Check.put(x, "peat 0 9 9;water 0 9 9;drain 5;turves 3 3;hearth hands 1 need 1;right 0 9;sun 1;shower 9;rain;day 9");
        x.bog();
        Check.law(x, "soak 20");
        x.days(3);
        Check.due("back", x.back(), true);
        Check.due("all is as it was, but that no acts are remembered", Check.picture(x),
                before.replaceFirst("(counts: .*) 1\n", "$1 0\n"));
        x.dig(7);
        x.image();
        x.dig(8);
        x.back();
        Check.due("one image: the latest", x.count(10), 3);
        x.dig(9);
        x.back();
        Check.due("which stays", x.count(10), 3);
    }

    private static void back() {
        Check.says("One goes back to THE IMAGE: true; false, and nothing happens, if none was kept.");
        TurfBog x = manyThings();
        String before = Check.picture(x);
        Check.put(x, "day 7");
        Check.due("none was kept", x.back(), false);
        Check.due("nothing happens to the tape", Check.tapeHas(x, 5), true);
        Check.due("nothing happens", Check.picture(x), before);
        TurfBog y = new TurfBog();
        y.image();
        Check.put(y, "otter");
        Check.refuses("a wrong text", BAD, y::bog);
        Check.put(y, "day 7");
        Check.due("back", y.back(), true);
        Check.due("the tape stays", Check.tapeHas(y, 5), true);
        Check.due("fault() stays", y.fault(), 0);
    }

    // ---- counts ----

    private static void count() {
        Check.says("12 acts that can be UNDONE. NONE for another what.");
        TurfBog x = new TurfBog();
        for (int what : new int[] {-1, 13, 14, Integer.MIN_VALUE, Integer.MAX_VALUE}) {
            Check.due("count(" + what + ")", x.count(what), -1);
        }
        Check.due("count(12)", x.count(12), 0);
        Check.says("2 LINES of THE LAW (NONE without one)");
        Check.due("without one", x.count(2), -1);
        x.law();
        Check.due("of none", x.count(2), 0);
    }

    private static void countBounds() {
        Check.says("7 DEPTH of all CELLS together, 8 TURVES of all together, 9 STORES of all together, 10 DRAINS");
        TurfBog x = Check.bog("peat 0" + " 9".repeat(25), "hearth hands 1 need 1 store 999;".repeat(5) + "hearth hands 1 need 1 store 999",
                turves(0, 13), turves(13, 25));
        for (int cell = 0; cell < 25; cell++) {
            x.dig(cell);
        }
        Check.due("depth", x.count(7), 225);
        Check.due("turves", x.count(8), 2475);
        Check.due("stores", x.count(9), 5994);
        Check.due("drains", x.count(10), 25);
        Check.due("spread", x.staged(0), 2475);
    }

    private static String turves(int from, int to) {
        StringBuilder b = new StringBuilder();
        for (int cell = from; cell < to; cell++) {
            b.append(cell == from ? "" : ";").append("turves ").append(cell).append(" 99");
        }
        return b.toString();
    }
}
