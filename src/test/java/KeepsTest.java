import java.util.NoSuchElementException;

/** Promises 38 to 54: the most and the like, days ahead, the log, going back and counts. */
public final class KeepsTest {
    private static final Class<IllegalArgumentException> BAD = IllegalArgumentException.class;
    private static final Class<IndexOutOfBoundsException> NO_SUCH = IndexOutOfBoundsException.class;
    private static final Class<NoSuchElementException> NO_WHAT = NoSuchElementException.class;

    public static void main(String[] args) {
        theMost();
        theLike();
        staged();
        ahead();
        trials();
        spans();
        led();
        logs();
        logsUndone();
        seeds();
        undone();
        manyActs();
        forgotten();
        images();
        counts();
        Check.finish();
    }

    private static void theMost() {
        TurfBog x = Check.bog("peat 3 7 9 9 8;water 3 7 8 8 6;hearth hands 1 need 1 store 5;"
                + "hearth hands 1 need 1 store 9;hearth hands 1 need 1 store 9");
        Check.due("deepest", x.deepest(), 4);
        Check.due("wettest", x.wettest(), 4);
        Check.due("richest", x.richest(), 1);
        Check.due("deepest of none", new TurfBog().deepest(), 0);
        Check.due("wettest of all alike", new TurfBog().wettest(), 0);
        Check.due("richest of none", new TurfBog().richest(), -1);
        Check.due("the last is the deepest", Check.bog("peat 24 1").deepest(), 24);
    }

    private static void theLike() {
        TurfBog x = Check.bog("hearth hands 1 need 5 store 5;hearth hands 1 need 5 store 4;hearth hands 1 need 5;"
                + "hearth hands 2 need 5 store 9;hearth hands 1 need 6;peat 0 1 1 1;right 3 1;right 0 9");
        Check.due("cold", x.cold(), Check.bits(1, 2, 4));
        Check.due("twins", x.twins(), 3);
        Check.due("waste", x.waste(), Check.bits(0, 2));
        Check.due("cold of none", new TurfBog().cold(), 0);
        Check.due("twins of none", new TurfBog().twins(), 0);
        Check.due("waste of none", new TurfBog().waste(), 0);
    }

    private static void staged() {
        TurfBog x = Check.bog("turves 0 5 dry 60;turves 1 6 dry 60;turves 2 7;turves 3 8");
        x.foot(0);
        x.foot(1);
        x.foot(1);
        Check.due("spread", x.staged(0), 15);
        Check.due("footed", x.staged(1), 5);
        Check.due("ricked", x.staged(2), 6);
        Check.refuses("staged(3)", NO_SUCH, () -> x.staged(3));
        Check.refuses("staged(-1)", NO_SUCH, () -> x.staged(-1));
    }

    private static void ahead() {
        TurfBog x = Check.bog("peat 5 2;water 5 4;turves 5 2 dry 30;hearth hands 2 need 9;right 0 5;drain 5 10 15 20 21 22 23 24;"
                + "shower 100;sun 6");
        Check.due("depth now", x.ahead(5, 0, 0), 2);
        Check.due("depth", x.ahead(5, 1, 0), 1);
        Check.due("water", x.ahead(5, 1, 1), 2);
        Check.due("turves", x.ahead(5, 1, 2), 4);
        Check.due("dry", x.ahead(5, 1, 3), 18);
        Check.due("dry on the next", x.ahead(5, 2, 3), 16);
        Check.due("in sixty days", x.ahead(5, 60, 3), 99);
        Check.due("the seed is not used", x.seed(1), 1);
        Check.due("nothing stays", x.cell(5, 3), 2);
        Check.due("no rows", x.count(11), 0);
        x.sky(6, true);
        Check.due("rain stays", x.ahead(24, 60, 1), 0);
        Check.due("and rises", x.ahead(0, 60, 1), 5);
        Check.due("where nothing lets it down", x.ahead(2, 60, 1), 9);
        Check.refuses("no such cell", NO_SUCH, () -> x.ahead(25, 61, 9));
        Check.refuses("61 days", BAD, () -> x.ahead(0, 61, 9));
        Check.refuses("-1 days", BAD, () -> x.ahead(0, -1, 0));
        Check.refuses("another what", NO_WHAT, () -> x.ahead(0, 0, 4));
        Check.refuses("another what", NO_WHAT, () -> x.ahead(0, 0, -1));
    }

    private static TurfBog worked() {
        return Check.bog("peat 0 3 9 2;water 0 2 3 4;turves 7 5;hearth hands 2 need 9;hearth hands 5 need 9;right 0 0 1 2;"
                + "right 1 1 2;drain 24 19 14 9 4 3;shower 45");
    }

    private static void trials() {
        TurfBog x = worked();
        for (int n = 0; n <= 60; n += 6) {
            TurfBog y = worked();
            if (n > 0) {
                y.days(n);
            }
            Check.due("turves in " + n, x.trial(n, false), y.count(8));
            Check.due("open in " + n, x.trial(n, true), Integer.bitCount(y.open()));
        }
        Check.due("nothing stays", x.count(8), 5);
        Check.due("nor of the sky", x.count(3), 5);
        Check.due("nor of the seed", x.seed(9), 1);
        Check.refuses("61 days", BAD, () -> x.trial(61, true));
        Check.refuses("-1 days", BAD, () -> x.trial(-1, false));
    }

    /** With these showers the sixth seed, but not the seventh or none, has the most or the least. */
    private static void spans() {
        for (int shower : new int[] {5, 10, 11, 43}) {
            for (int n = 0; n <= 60; n++) {
                spanOf(shower, n);
            }
        }
        TurfBog x = worked();
        x.seed(77);
        x.span(60, true);
        Check.due("nothing stays", x.seed(77), 77);
        Check.due("nor of peat", x.count(7), 14);
        Check.refuses("61 days", BAD, () -> x.span(61, true));
        Check.refuses("-1 days", BAD, () -> x.span(-1, false));
    }

    private static TurfBog dryBog(int shower, int seed) {
        TurfBog x = Check.bog("peat 0 9 9 9 9 9 9 9 9;water 0 0 0 0 0 0 0 0 0;hearth hands 1 need 9;right 0 0 1 2 3 4 5 6 7;"
                + "shower " + shower);
        x.seed(seed);
        return x;
    }

    private static void spanOf(int shower, int n) {
        int least = 999;
        int most = -1;
        for (int seed = 1; seed <= 6; seed++) {
            TurfBog y = dryBog(shower, seed);
            if (n > 0) {
                y.days(n);
            }
            least = Math.min(least, y.count(7));
            most = Math.max(most, y.count(7));
        }
        TurfBog x = dryBog(shower, 99);
        Check.due("least in " + n + ", shower " + shower, x.span(n, false), least);
        Check.due("most in " + n + ", shower " + shower, x.span(n, true), most);
    }

    private static void led() {
        TurfBog x = Check.bog("peat 0 9 9;water 0 0 0;hearth hands 1 need 0;hearth hands 2 need 0;right 0 0;right 1 1;day 5");
        Check.due("no rows", x.led(0, false), 0);
        Check.due("no day", x.led(0, true), -1);
        x.cut(0, 0);
        x.days(3);
        x.cut(0, 0);
        x.days(1);
        x.cut(1, 1);
        Check.due("rows", x.led(0, false), 2);
        Check.due("the day of the latest", x.led(0, true), 8);
        Check.due("of the other one", x.led(1, true), 9);
        Check.refuses("led(2, true)", NO_SUCH, () -> x.led(2, true));
        Check.refuses("led(-1, false)", NO_SUCH, () -> x.led(-1, false));
    }

    private static void logs() {
        TurfBog x = Check.bog("peat 0 9 9 9 9 9 9 9 9;water 0 0 0 0 0 0 0 0 0;hearth hands 1 need 9;hearth hands 2 need 0;"
                + "right 0 0 1 2 3 4 5 6 7;right 1 7 8;day 5");
        Check.due("no row", x.log(0, 0), -1);
        x.days(60);
        x.cut(1, 7);
        int[] latest = {65, 1, 7, 1, 2};
        for (int what = 0; what < latest.length; what++) {
            Check.due("log(0, " + what + ")", x.log(0, what), latest[what]);
        }
        int[] before = {64, 0, 6, 0, 1};
        for (int what = 0; what < before.length; what++) {
            Check.due("log(1, " + what + ")", x.log(1, what), before[what]);
        }
        Check.due("sixty rows", x.count(11), 60);
        Check.due("the oldest", x.log(59, 0), 6);
        Check.due("the one before it is gone", x.log(60, 0), -1);
        Check.due("none is later than the latest", x.log(-1, 0), -1);
        Check.refuses("another what", NO_WHAT, () -> x.log(0, 5));
        Check.refuses("another what, without a row", NO_WHAT, () -> x.log(99, -1));
    }

    private static void logsUndone() {
        TurfBog x = Check.bog("peat 0 9 9 9 9 9 9 9 9;water 0 0 0 0 0 0 0 0 0;hearth hands 1 need 9;hearth hands 2 need 0;"
                + "right 0 0 1 2 3 4 5 6 7;right 1 8");
        x.image();
        x.days(60);
        Check.due("the oldest", x.log(59, 0), 0);
        x.days(5);
        Check.due("the oldest then", x.log(59, 0), 5);
        x.undo();
        Check.due("the oldest again", x.log(59, 0), 0);
        Check.due("the latest again", x.log(0, 0), 59);
        x.back();
        x.cut(0, 3);
        x.image();
        x.undo();
        x.cut(0, 5);
        Check.due("a row", x.log(0, 2), 5);
        x.back();
        Check.due("the row of the image", x.log(0, 2), 3);
    }

    private static void seeds() {
        TurfBog x = new TurfBog();
        Check.due("seed", x.seed(-7), 1);
        Check.due("seed again", x.seed(0), -7);
        x.days(1);
        // Draws from seed 0: 0 (of 12345), then 21468 or its like, by the same rule.
        int first = 12345;
        int second = first * 1103515245 + 12345;
        Check.due("sun", x.count(3), (first >> 16 & 32767) % 10);
        Check.due("two draws a day", x.seed(1), second);
        Check.due("a seed is no act", x.count(12), 1);
    }

    private static void undone() {
        TurfBog x = Check.bog("peat 0 3;water 0 0;turves 1 5 dry 60;water 1 0;hearth hands 2 need 9 store 4;hearth hands 2 need 0;"
                + "right 0 0 1;shower 50");
        x.seed(5);
        x.days(7);
        x.undo();
        Check.due("days of one call are one", x.count(6), 0);
        Check.due("seed", x.seed(5), 5);
        Check.due("sun", x.count(3), 5);
        Check.due("rows", x.count(11), 0);
        Check.due("depth", x.count(7), 3);
        x.cut(0, 0);
        x.foot(1);
        x.cart(0, 1);
        x.dig(3);
        x.block(3);
        x.right(1, 0, true);
        x.trade(0, 1, 9);
        x.sky(1, true);
        x.seed(8);
        Check.due("acts", x.count(12), 8);
        Check.due("undo", x.undo(), true);
        Check.due("rain", x.count(5), 0);
        Check.due("the seed, too", x.seed(8), 5);
        x.undo();
        Check.due("store", x.hearth(0, 2), 9);
        x.undo();
        Check.due("right", x.hearth(1, 3), 0);
        x.undo();
        Check.due("drain", x.count(10), 1);
        x.undo();
        Check.due("drain", x.count(10), 0);
        x.undo();
        Check.due("carted", x.cell(1, 3), 5);
        Check.due("dry", x.cell(1, 4), 60);
        Check.due("row", x.count(11), 1);
        x.undo();
        Check.due("footed", x.cell(1, 5), 0);
        Check.due("undo", x.undo(), true);
        Check.due("cut", x.cell(0, 3), 0);
        Check.due("no more", x.undo(), false);
    }

    private static void manyActs() {
        TurfBog x = new TurfBog();
        for (int c = 0; c < 15; c++) {
            x.dig(c);
            Check.due("acts", x.count(12), Math.min(12, c + 1));
        }
        for (int i = 0; i < 12; i++) {
            Check.due("undo " + i, x.undo(), true);
            Check.due("drains then", x.count(10), 14 - i);
        }
        Check.due("twelve are remembered", x.undo(), false);
        Check.due("three stay", x.count(10), 3);
    }

    private static void forgotten() {
        TurfBog x = Check.bog("hearth hands 1 need 1");
        x.dig(0);
        Check.refuses("dig(25)", NO_SUCH, () -> x.dig(25));
        Check.put(x, "wrong");
        Check.refuses("wrong bog", BAD, x::bog);
        Check.put(x, "wrong");
        Check.refuses("wrong law", BAD, x::law);
        Check.due("nothing is forgotten by what throws", x.count(12), 1);
        Check.due("nor by going back to nothing", x.back(), false);
        Check.due("acts", x.count(12), 1);
        Check.law(x, "");
        Check.due("a law", x.count(12), 0);
        x.dig(1);
        Check.put(x, "");
        x.bog();
        Check.due("a text", x.undo(), false);
        x.dig(2);
        x.image();
        Check.due("not by an image", x.count(12), 1);
        x.back();
        Check.due("but by going back", x.undo(), false);
    }

    private static void images() {
        TurfBog x = Check.bog("peat 0 5;water 0 0;hearth hands 3 need 9;right 0 0;sun 4");
        Check.law(x, "dry 1;dry 2");
        x.seed(9);
        x.cut(0, 0);
        x.image();
        Check.put(x, "hearth hands 1 need 1;peat 0 9;rain;shower 9;day 9;drain 9");
        x.bog();
        Check.law(x, "soak 9");
        x.cut(1 - 1, 0);
        x.days(9);
        x.feed(0x70657874, 0, 0, 0, 0);
        Check.due("back", x.back(), true);
        int[] counts = {1, 1, 2, 4, 0, 0, 0, 4, 3, 0, 0, 1, 0};
        for (int what = 0; what < counts.length; what++) {
            Check.due("back: count(" + what + ")", x.count(what), counts[what]);
        }
        Check.due("seed", x.seed(9), 9);
        Check.due("gain by the law of then", x.cell(0, 9), 7);
        Check.due("the tape stays", x.end(20), true);
        x.end(0);
        x.dig(4);
        Check.due("back again", x.back(), true);
        Check.due("drains", x.count(10), 0);
        x.dig(4);
        x.image();
        x.undo();
        Check.due("the image outlives an act undone", x.back(), true);
        Check.due("drains", x.count(10), 1);
        Check.put(x, "y");
        Check.refuses("wrong", BAD, x::bog);
        Check.put(x, "day x");
        Check.refuses("wrong", BAD, x::bog);
        x.back();
        Check.due("fault() stays", x.fault(), 4);
        TurfBog y = new TurfBog();
        y.image();
        Check.law(y, "");
        y.back();
        Check.due("no law again", y.count(2), -1);
    }

    private static void counts() {
        TurfBog x = Check.bog("peat 0 5 3;turves 3 9;turves 4 8;hearth hands 3 need 9 store 7;hearth hands 3 need 9 store 6;"
                + "sun 4;shower 33;rain;day 12;drain 7 8 9");
        x.dig(10);
        int[] due = {2, 1, -1, 4, 33, 1, 12, 8, 17, 13, 4, 0, 1};
        for (int what = 0; what < due.length; what++) {
            Check.due("count(" + what + ")", x.count(what), due[what]);
        }
        Check.due("count(13)", x.count(13), -1);
        Check.due("count(-1)", x.count(-1), -1);
    }
}
