import java.util.ArrayList;
import java.util.List;
import java.util.NoSuchElementException;
import java.util.function.Consumer;

/** Each way in which each call is refused: what it throws, and that it leaves all as it was (but a tape that it uses up). */
public final class RefusalsTest {
    private static final Class<IllegalArgumentException> BAD = IllegalArgumentException.class;
    private static final Class<IllegalStateException> CANNOT = IllegalStateException.class;
    private static final Class<IndexOutOfBoundsException> NO_SUCH = IndexOutOfBoundsException.class;
    private static final Class<NoSuchElementException> NO_WHAT = NoSuchElementException.class;
    private static final int[] NO_CELLS = {-1, 25, Integer.MIN_VALUE, Integer.MAX_VALUE};
    /** There are hearths 0 to 2. */
    private static final int[] NO_HEARTHS = {-1, 3, 6, Integer.MIN_VALUE, Integer.MAX_VALUE};
    private static final String LEAVES = "a call that throws changes nothing but the TAPE, where it is used up.";

    private record Refusal(String name, Class<? extends RuntimeException> kind, Consumer<TurfBog> call) {
    }

    private static final List<Refusal> REFUSALS = new ArrayList<>();

    public static void main(String[] args) {
        noSuchCells();
        noSuchHearths();
        noSuchWhats();
        noNumbers();
        cannotBe();
        firstToldFirst();
        Check.says(LEAVES);
        for (Refusal one : REFUSALS) {
            leavesAll(one);
        }
        tapeCalls();
        textCalls();
        answersStay();
        Check.finish();
    }

    private static void refused(String name, Class<? extends RuntimeException> kind, Consumer<TurfBog> call) {
        REFUSALS.add(new Refusal(name, kind, call));
    }

    private static TurfBog busy() {
        TurfBog x = Check.bog("peat 0 5 5 5;peat 23 1 1;water 0 1 1 1;water 23 4 3;turves 1 9 dry 70;turves 2 9 dry 29;turves 3 90 dry 99;"
                + "hearth hands 3 need 9;hearth hands 1 need 9 store 9;hearth hands 4 need 0 store 999;right 0 0 1 2 3 5 23;"
                + "right 1 1 12;drain 24 19", "turves 12 3 dry 60;shower 40;sun 6;day 3;peat 3 1;water 3 0");
        Check.law(x, "dry 3 if laid;sink 1;soak 2 if rain");
        x.cut(0, 0);
        x.seed(77);
        x.sky(4, true);
        return x;
    }

    private static void noSuchCells() {
        Check.says("IndexOutOfBoundsException: there is no such CELL, HEARTH, STAGE.");
        for (int cell : NO_CELLS) {
            refused("cell(" + cell + ", 0)", NO_SUCH, x -> x.cell(cell, 0));
            refused("cut(0, " + cell + ")", NO_SUCH, x -> x.cut(0, cell));
            refused("foot(" + cell + ")", NO_SUCH, x -> x.foot(cell));
            refused("cart(0, " + cell + ")", NO_SUCH, x -> x.cart(0, cell));
            refused("dig(" + cell + ")", NO_SUCH, x -> x.dig(cell));
            refused("block(" + cell + ")", NO_SUCH, x -> x.block(cell));
            refused("right(0, " + cell + ", true)", NO_SUCH, x -> x.right(0, cell, true));
            refused("right(0, " + cell + ", false)", NO_SUCH, x -> x.right(0, cell, false));
            refused("hag(" + cell + ")", NO_SUCH, x -> x.hag(cell));
            refused("far(" + cell + ", 0)", NO_SUCH, x -> x.far(cell, 0));
            refused("far(0, " + cell + ")", NO_SUCH, x -> x.far(0, cell));
            refused("far of it twice", NO_SUCH, x -> x.far(cell, cell));
            refused("ahead(" + cell + ", 1, 0)", NO_SUCH, x -> x.ahead(cell, 1, 0));
        }
        for (int stage : new int[] {-1, 3, Integer.MIN_VALUE, Integer.MAX_VALUE}) {
            refused("staged(" + stage + ")", NO_SUCH, x -> x.staged(stage));
        }
    }

    private static void noSuchHearths() {
        for (int hearth : NO_HEARTHS) {
            refused("hearth(" + hearth + ", 0)", NO_SUCH, x -> x.hearth(hearth, 0));
            refused("cut(" + hearth + ", 0)", NO_SUCH, x -> x.cut(hearth, 0));
            refused("cart(" + hearth + ", 1)", NO_SUCH, x -> x.cart(hearth, 1));
            refused("right(" + hearth + ", 0, true)", NO_SUCH, x -> x.right(hearth, 0, true));
            refused("trade(" + hearth + ", 0, 1)", NO_SUCH, x -> x.trade(hearth, 0, 1));
            refused("trade(1, " + hearth + ", 1)", NO_SUCH, x -> x.trade(1, hearth, 1));
            refused("rests(" + hearth + ", 0)", NO_SUCH, x -> x.rests(hearth, 0));
            refused("rests(0, " + hearth + ")", NO_SUCH, x -> x.rests(0, hearth));
            refused("led(" + hearth + ", true)", NO_SUCH, x -> x.led(hearth, true));
            refused("led(" + hearth + ", false)", NO_SUCH, x -> x.led(hearth, false));
            if (hearth != TurfBog.NONE) {
                refused("placed(" + hearth + ")", NO_SUCH, x -> x.placed(hearth));
                refused("pairs(" + hearth + ")", NO_SUCH, x -> x.pairs(hearth));
            }
        }
        refused("placed(-2)", NO_SUCH, x -> x.placed(-2));
        refused("pairs(-2)", NO_SUCH, x -> x.pairs(-2));
    }

    private static void noSuchWhats() {
        for (int beyond : new int[] {-1, 17, Integer.MIN_VALUE, Integer.MAX_VALUE}) {
            refused("cell(0, " + beyond + ")", NO_WHAT, x -> x.cell(0, beyond));
            refused("hearth(0, " + beyond + ")", NO_WHAT, x -> x.hearth(0, beyond));
            refused("ahead(0, 0, " + beyond + ")", NO_WHAT, x -> x.ahead(0, 0, beyond));
            refused("log(0, " + beyond + ")", NO_WHAT, x -> x.log(0, beyond));
        }
        refused("hearth(0, 7)", NO_WHAT, x -> x.hearth(0, 7));
        refused("ahead(0, 0, 4)", NO_WHAT, x -> x.ahead(0, 0, 4));
        refused("log(0, 5)", NO_WHAT, x -> x.log(0, 5));
        refused("log(99, 5)", NO_WHAT, x -> x.log(99, 5));
    }

    private static void noNumbers() {
        Check.says("IllegalArgumentException: a number is none, or two are one.");
        for (int n : new int[] {-1, 61, Integer.MIN_VALUE, Integer.MAX_VALUE}) {
            refused("days(" + n + ")", BAD, x -> x.days(n));
            refused("ahead(0, " + n + ", 0)", BAD, x -> x.ahead(0, n, 0));
            refused("trial(" + n + ", true)", BAD, x -> x.trial(n, true));
            refused("trial(" + n + ", false)", BAD, x -> x.trial(n, false));
            refused("span(" + n + ", true)", BAD, x -> x.span(n, true));
            refused("span(" + n + ", false)", BAD, x -> x.span(n, false));
            refused("odds(" + n + ", 0)", BAD, x -> x.odds(n, 0));
            refused("odds(0, " + n + ")", BAD, x -> x.odds(0, n));
            refused("sky(" + n + ", false)", BAD, x -> x.sky(n, false));
        }
        refused("days(0)", BAD, x -> x.days(0));
        refused("sky(10, false)", BAD, x -> x.sky(10, false));
        refused("odds(6, 5)", BAD, x -> x.odds(6, 5));
        refused("odds(5, 6)", BAD, x -> x.odds(5, 6));
        for (int n : new int[] {0, -1, 1000, Integer.MIN_VALUE, Integer.MAX_VALUE}) {
            refused("trade(2, 1, " + n + ")", BAD, x -> x.trade(2, 1, n));
        }
        for (int hearth = 0; hearth < 3; hearth++) {
            int one = hearth;
            refused("trade(" + one + ", " + one + ", 1)", BAD, x -> x.trade(one, one, 1));
            refused("rests(" + one + ", " + one + ")", BAD, x -> x.rests(one, one));
        }
    }

    private static void cannotBe() {
        Check.says("IllegalStateException: it cannot be.");
        refused("cut of no peat", CANNOT, x -> x.cut(0, 5));
        refused("cut of water 4", CANNOT, x -> x.cut(0, 23));
        refused("cut of 90 turves", CANNOT, x -> x.cut(0, 3));
        refused("cut without a right", CANNOT, x -> x.cut(1, 0));
        refused("cut of the last cell without a right", CANNOT, x -> x.cut(0, 24));
        refused("foot of none", CANNOT, x -> x.foot(4));
        refused("foot of 29", CANNOT, x -> x.foot(2));
        refused("cart of none", CANNOT, x -> x.cart(0, 5));
        refused("cart of 29", CANNOT, x -> x.cart(0, 2));
        refused("cart without a right", CANNOT, x -> x.cart(2, 1));
        refused("cart on too long a way", CANNOT, x -> x.cart(1, 12));
        refused("trade of one of none", CANNOT, x -> x.trade(0, 1, 1));
        refused("trade of ten of nine", CANNOT, x -> x.trade(1, 0, 10));
    }

    private static void firstToldFirst() {
        Check.says("Of several exceptions the one told first is thrown");
        refused("cell(25, 17)", NO_SUCH, x -> x.cell(25, 17));
        refused("hearth(3, 7)", NO_SUCH, x -> x.hearth(3, 7));
        refused("cut without a right in no cell", NO_SUCH, x -> x.cut(1, 25));
        refused("cut of no hearth where none is open", NO_SUCH, x -> x.cut(3, 5));
        refused("cart of none by no hearth", NO_SUCH, x -> x.cart(3, 5));
        refused("trade(3, 3, 0)", NO_SUCH, x -> x.trade(3, 3, 0));
        refused("trade(0, 3, 1)", NO_SUCH, x -> x.trade(0, 3, 1));
        refused("trade(0, 0, 1), of none", BAD, x -> x.trade(0, 0, 1));
        refused("trade(0, 1, 1000), of none", BAD, x -> x.trade(0, 1, 1000));
        refused("rests(3, 3)", NO_SUCH, x -> x.rests(3, 3));
        refused("ahead(25, 61, 4)", NO_SUCH, x -> x.ahead(25, 61, 4));
        refused("ahead(0, 61, 4)", BAD, x -> x.ahead(0, 61, 4));
    }

    /** The call uses no tape: what is on it stays. */
    private static void leavesAll(Refusal one) {
        TurfBog x = busy();
        String before = Check.picture(x);
        Check.put(x, "day 9");
        Check.refuses(one.name, one.kind, () -> one.call.accept(x));
        Check.due(one.name + " leaves the tape", Check.tapeHas(x, 5), true);
        Check.due(one.name + " leaves all else", Check.picture(x), before);
        Check.due(one.name + " leaves the tape as it was", x.bog() * 1000 + x.count(6), 3009);
    }

    private static void tapeCalls() {
        Check.says(LEAVES);
        List<Consumer<TurfBog>> calls = List.of(x -> x.net(), x -> x.trunks(), x -> x.likely(), x -> x.probe(),
                x -> x.falls(true), x -> x.falls(false), x -> x.ask());
        for (int i = 0; i < calls.size(); i++) {
            Consumer<TurfBog> call = calls.get(i);
            TurfBog x = busy();
            String before = Check.picture(x);
            Check.put(x, 1, 1, 1, 1, 255);
            Check.refuses("tape call " + i, BAD, () -> call.accept(x));
            Check.due("tape call " + i + " uses the tape up", Check.tapeHas(x, 0), true);
            Check.due("tape call " + i + " leaves all else", Check.picture(x), before);
        }
    }

    private static void textCalls() {
        TurfBog x = busy();
        String before = Check.picture(x);
        Check.put(x, "day 9;drain 1;right 9 1");
        Check.refuses("a wrong text", BAD, x::bog);
        Check.due("the tape is used up", Check.tapeHas(x, 0), true);
        Check.due("fault() tells of it, all else stays", Check.picture(x), before.replace("fault: -1", "fault: 20"));
        TurfBog y = busy();
        Check.put(y, "dry 9;soak 9;sink 21");
        Check.refuses("a wrong law", BAD, y::law);
        Check.due("the tape is used up", Check.tapeHas(y, 0), true);
        Check.due("fault() tells of it, all else stays", Check.picture(y), before.replace("fault: -1", "fault: 18"));
        TurfBog full = busy();
        for (int i = 2; i < 12; i++) {
            full.bog();
        }
        full.dig(7);
        before = Check.picture(full);
        Check.put(full, "day 9;drain 1;rain");
        Check.refuses("a 13th text", UnsupportedOperationException.class, full::bog);
        Check.due("the tape is used up", Check.tapeHas(full, 0), true);
        Check.due("all else stays", Check.picture(full), before);
    }

    /** What is refused by an answer, not by an exception, leaves all as it was, too. */
    private static void answersStay() {
        TurfBog x = busy();
        String before = Check.picture(x);
        Check.says("NONE, and none come, if it would have more than 400.");
        Check.put(x, " ".repeat(395) + "day 9");
        Check.due("feed of a full tape", x.feed(1, 2, 3, 4, 5), -1);
        Check.says("false, and nothing happens, if it has fewer, or n is below 0.");
        Check.due("end(401)", x.end(401), false);
        Check.due("end(-1)", x.end(-1), false);
        Check.due("the tape stays", Check.tapeHas(x, 400), true);
        Check.says("false, and nothing happens, if none was kept.");
        Check.due("back()", x.back(), false);
        Check.due("all stays", Check.picture(x), before);
        Check.due("also what is on the tape", x.bog() * 1000 + x.count(6), 3009);
        Check.says("UNDONE: whether there was one.");
        TurfBog y = busy();
        y.law();
        before = Check.picture(y);
        Check.due("undo() of none", y.undo(), false);
        Check.due("all stays", Check.picture(y), before);
    }
}
