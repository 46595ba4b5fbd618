import java.util.NoSuchElementException;

/** Promises 7 to 17: what is told of cells and hearths, days and acts. */
public final class ActsTest {
    private static final Class<IllegalArgumentException> BAD = IllegalArgumentException.class;
    private static final Class<IllegalStateException> CANNOT = IllegalStateException.class;
    private static final Class<IndexOutOfBoundsException> NO_SUCH = IndexOutOfBoundsException.class;
    private static final Class<NoSuchElementException> NO_WHAT = NoSuchElementException.class;

    public static void main(String[] args) {
        cells();
        ways();
        ripeAndClear();
        hearths();
        dayWater();
        dayDry();
        dayCuts();
        daySky();
        cuts();
        feet();
        carts();
        drains();
        rights();
        trades();
        skies();
        Check.finish();
    }

    private static void cells() {
        TurfBog x = Check.bog("drain 24 23 14 19 0;peat 6 1;water 6 3;turves 6 90;turves 7 89;peat 7 1;water 7 4");
        Check.due("drained", x.cell(14, 6), 1);
        Check.due("a drain that leads nowhere", x.cell(0, 6), 0);
        Check.due("lets, drained", x.cell(14, 7), 1);
        Check.due("lets, beside", x.cell(9, 7), 1);
        Check.due("lets not", x.cell(0, 7), 0);
        Check.due("lets not round the edge", x.cell(15, 7), 0);
        Check.due("90 turves are too many", x.cell(6, 8), 0);
        Check.due("water 4 is too much", x.cell(7, 8), 0);
        Check.put(x, "turves 6 89;water 7 3");
        x.bog();
        Check.due("open", x.cell(6, 8), 1);
        Check.due("open, too", x.cell(7, 8), 1);
        Check.due("without peat", x.cell(8, 8), 0);
        Check.due("ditch of a drained one", x.cell(23, 11), 0);
        Check.due("ditch beside", x.cell(9, 11), 1);
        Check.due("ditch of one with a drain", x.cell(0, 11), 5);
        Check.due("ditch without any drain", new TurfBog().cell(0, 11), 9);
        Check.due("owners", x.cell(0, 16), 0);
        Check.refuses("cell(-1, 0)", NO_SUCH, () -> x.cell(-1, 0));
        Check.refuses("cell(25, 99)", NO_SUCH, () -> x.cell(25, 99));
        Check.refuses("cell(24, -1)", NO_WHAT, () -> x.cell(24, -1));
        Check.refuses("cell(0, 17)", NO_WHAT, () -> x.cell(0, 17));
    }

    private static void ways() {
        TurfBog x = Check.bog("water 0 9 9 9 9 1 9 9 9 9 0 2 0 0 0 0");
        Check.due("way of the road", x.cell(0, 12), 9);
        Check.due("steps of the road", x.cell(0, 13), 0);
        Check.due("way round", x.cell(10, 12), 3);
        Check.due("steps round", x.cell(10, 13), 6);
        Check.law(x, "sink 6 if x > 0 and x < 4 and y > 1");
        Check.due("way across", x.cell(10, 12), 20);
        Check.due("steps across", x.cell(10, 13), 2);
        TurfBog y = Check.bog("water 0 0 0 0 0 0 0 0 0 0 0");
        Check.due("steps of a way of no sinks", y.cell(5, 13), 1);
        Check.due("of the road that one alone", y.cell(2, 13), 0);
    }

    private static void ripeAndClear() {
        TurfBog x = Check.bog("turves 0 1 dry 59;turves 1 1 dry 60;turves 2 1;sun 1;drain 24;peat 19 1;water 19 9;"
                + "peat 0 1;peat 24 1;water 24 9;turves 24 99");
        Check.due("ripe", x.cell(0, 14), 1);
        Check.due("ripe now", x.cell(1, 14), 0);
        Check.due("ripe on the last day", x.cell(2, 14), 60);
        Check.due("never without turves", x.cell(3, 14), -1);
        Check.due("clear", x.cell(19, 15), 6);
        Check.due("never clear", x.cell(0, 15), -1);
        Check.due("never clear with turves enough", x.cell(24, 15), -1);
        x.sky(0, false);
        Check.due("never ripe", x.cell(2, 14), -1);
    }

    private static void hearths() {
        TurfBog x = Check.bog("hearth hands 4 need 9 store 3;hearth hands 4 need 9 store 4;right 0 9 3 24;peat 9 1 1;"
                + "water 9 3 3;peat 24 1;water 24 0");
        int[] due = {4, 9, 3, Check.bits(3, 9, 24), 6, 9, 42};
        for (int what = 0; what < due.length; what++) {
            Check.due("hearth(0, " + what + ")", x.hearth(0, what), due[what]);
        }
        Check.due("nowhere to cut", x.hearth(1, 5), -1);
        Check.due("share", x.hearth(1, 6), 57);
        x.trade(0, 1, 3);
        Check.due("lacks", x.hearth(0, 4), 9);
        Check.due("share of nothing", x.hearth(0, 6), 0);
        Check.due("share of all", x.hearth(1, 6), 100);
        Check.due("share of one in all", Check.bog("hearth hands 1 need 9 store 1").hearth(0, 6), 100);
        Check.due("share without stores", Check.bog("hearth hands 1 need 9").hearth(0, 6), 0);
        Check.refuses("hearth(-1, 0)", NO_SUCH, () -> x.hearth(-1, 0));
        Check.refuses("hearth(2, 9)", NO_SUCH, () -> x.hearth(2, 9));
        Check.refuses("hearth(0, 7)", NO_WHAT, () -> x.hearth(0, 7));
        Check.refuses("hearth(0, -1)", NO_WHAT, () -> x.hearth(0, -1));
    }

    private static void dayWater() {
        TurfBog x = Check.bog("drain 24;water 17 5 5 9 5 0 5 5 1;shower 100");
        x.days(1);
        Check.due("rain", x.count(5), 1);
        Check.due("water rises", x.cell(17, 1), 6);
        Check.due("where it is let, it stays", x.cell(19, 1), 9);
        Check.due("where it is drained, it falls", x.cell(24, 1), 0);
        Check.due("0 at least", x.cell(21, 1), 1);
        TurfBog y = Check.bog("drain 24;water 18 9 9 9 9 9 9 1");
        y.days(1);
        Check.due("dry day", y.cell(18, 1), 9);
        Check.due("let", y.cell(19, 1), 8);
        Check.due("drained, not below 0", y.cell(24, 1), 0);
    }

    /** The first draws from seed 1: 16838, 5758. */
    private static void daySky() {
        TurfBog x = Check.bog("shower 59");
        x.days(1);
        Check.due("sun", x.count(3), 8);
        Check.due("rain", x.count(5), 1);
        Check.due("day", x.count(6), 1);
        Check.due("seed", x.seed(1), -1770082073);
        TurfBog y = Check.bog("shower 58;rain");
        Check.due("no cuts", y.days(1), 0);
        Check.due("no rain", y.count(5), 0);
        TurfBog z = Check.bog("day 999");
        for (int i = 0; i < 151; i++) {
            z.days(60);
        }
        Check.due("day 9999 at most", z.count(6), 9999);
        Check.refuses("days(0)", BAD, () -> z.days(0));
        Check.refuses("days(61)", BAD, () -> z.days(61));
        Check.refuses("days(-1)", BAD, () -> z.days(-1));
    }

    private static void dayDry() {
        TurfBog x = Check.bog("turves 0 5 dry 40;turves 1 5 dry 95;turves 2 5 dry 1;turves 3 5 dry 55");
        Check.law(x, "soak 20 if x > 1 and x < 3");
        x.foot(3);
        x.foot(3);
        x.foot(0);
        x.days(1);
        Check.due("spread, and no more than 99", x.cell(1, 4), 99);
        Check.due("footed", x.cell(0, 4), 50);
        Check.due("ricked", x.cell(3, 4), 67);
        Check.due("soaked, and no less than 0", x.cell(2, 4), 0);
        Check.due("where none lie", x.cell(4, 4), 0);
        TurfBog y = Check.bog("turves 0 5 dry 40;turves 3 5 dry 55;shower 100");
        y.foot(3);
        y.foot(3);
        y.days(1);
        Check.due("rain on spread ones", y.cell(0, 4), 37);
        Check.due("rain on ricked ones", y.cell(3, 4), 54);
    }

    private static void dayCuts() {
        TurfBog x = Check.bog("peat 5 1 2;water 5 3 3;turves 6 10 dry 42;hearth hands 2 need 1;hearth hands 3 need 5 store 5;"
                + "hearth hands 4 need 9;right 0 6 5;right 1 5 6;right 2 5 6;day 7");
        Check.due("two cut", x.days(1), 2);
        Check.due("the first cuts in the first", x.cell(5, 3), 2);
        Check.due("which is cut out then", x.cell(5, 0), 0);
        Check.due("the other one in the next", x.cell(6, 3), 14);
        Check.due("dry is shared by all", x.cell(6, 4), 50 * 10 / 14);
        Check.due("the latest row's hearth", x.log(0, 1), 2);
        Check.due("the latest row's day", x.log(0, 0), 7);
        Check.due("cut on more days", x.days(5), 1);
        Check.due("nothing is left", x.count(7), 0);
        Check.due("rows", x.count(11), 3);
    }

    private static void cuts() {
        TurfBog x = Check.bog("peat 5 1 2;water 5 3 3 3;turves 6 10 dry 62;hearth hands 9 need 0;right 0 5 6 7");
        x.foot(6);
        Check.due("cut", x.cut(0, 6), 19);
        Check.due("dry", x.cell(6, 4), 620 / 19);
        Check.due("stage", x.cell(6, 5), 0);
        Check.due("depth", x.cell(6, 0), 1);
        Check.due("cut where none lay", x.cut(0, 5), 9);
        Check.due("dry of it", x.cell(5, 4), 0);
        Check.refuses("where no peat is left", CANNOT, () -> x.cut(0, 5));
        Check.refuses("where none was", CANNOT, () -> x.cut(0, 7));
        x.right(0, 6, false);
        Check.refuses("without a right", CANNOT, () -> x.cut(0, 6));
        Check.refuses("cut(1, 6)", NO_SUCH, () -> x.cut(1, 6));
        Check.refuses("cut(0, 25)", NO_SUCH, () -> x.cut(0, 25));
        Check.refuses("cut(0, -1)", NO_SUCH, () -> x.cut(0, -1));
        Check.due("rows", x.count(11), 2);
        Check.due("by hand", x.log(0, 3), 1);
    }

    private static void feet() {
        TurfBog x = Check.bog("turves 0 5 dry 29;turves 1 5 dry 30;turves 2 5 dry 50;sun 1");
        Check.refuses("too wet to be footed", CANNOT, () -> x.foot(0));
        Check.due("footed", x.foot(1), 1);
        Check.refuses("too wet to be ricked", CANNOT, () -> x.foot(1));
        Check.due("footed", x.foot(2), 1);
        Check.due("ricked", x.foot(2), 2);
        Check.refuses("ricked already", CANNOT, () -> x.foot(2));
        Check.refuses("none there", CANNOT, () -> x.foot(3));
        Check.refuses("foot(25)", NO_SUCH, () -> x.foot(25));
        Check.refuses("foot(-1)", NO_SUCH, () -> x.foot(-1));
        Check.due("acts", x.count(12), 3);
        Check.put(x, "turves 2 1 dry 30");
        x.bog();
        Check.due("told anew, they are spread", x.cell(2, 5), 0);
        Check.due("one alone", x.foot(2), 1);
    }

    private static void carts() {
        TurfBog x = Check.bog("turves 5 7 dry 60;turves 6 9 dry 59;turves 7 98 dry 99;turves 8 5 dry 99;"
                + "hearth hands 2 need 50 store 4;hearth hands 9 need 0 store 950;right 0 5 6;right 1 5 7 6;"
                + "water 0 4;water 5 4;day 30");
        Check.due("cart", x.cart(0, 5), 11);
        Check.due("none lie there", x.cell(5, 3), 0);
        Check.due("dry", x.cell(5, 4), 0);
        Check.due("999 at most", x.cart(1, 7), 999);
        Check.due("all that lay there", x.log(0, 4), 98);
        Check.due("day", x.log(0, 0), 30);
        Check.due("hearth", x.log(0, 1), 1);
        Check.due("cell", x.log(0, 2), 7);
        Check.due("carted", x.log(0, 3), 2);
        Check.refuses("none there", CANNOT, () -> x.cart(0, 5));
        Check.refuses("not dry", CANNOT, () -> x.cart(1, 6));
        Check.refuses("no right", CANNOT, () -> x.cart(1, 8));
        Check.refuses("cart(2, 5)", NO_SUCH, () -> x.cart(2, 5));
        Check.refuses("cart(-1, 5)", NO_SUCH, () -> x.cart(-1, 5));
        Check.refuses("cart(0, 25)", NO_SUCH, () -> x.cart(0, 25));
        Check.put(x, "turves 5 7 dry 60;water 5 5 5");
        x.bog();
        Check.due("way", x.cell(5, 12), 9);
        Check.refuses("too far for two hands", CANNOT, () -> x.cart(0, 5));
        x.foot(5);
        x.foot(5);
        Check.due("not for nine", x.cart(1, 5), 999);
        Check.due("stage of none", x.cell(5, 5), 0);
        Check.put(x, "turves 5 1 dry 60;water 0 0;water 5 0");
        x.bog();
        Check.due("one alone", x.cart(0, 5), 12);
    }

    private static void drains() {
        TurfBog x = new TurfBog();
        Check.due("dig", x.dig(24), true);
        Check.due("dig again", x.dig(24), false);
        Check.due("drains", x.count(10), 1);
        Check.due("block", x.block(24), true);
        Check.due("block again", x.block(24), false);
        Check.due("drains", x.count(10), 0);
        Check.refuses("dig(25)", NO_SUCH, () -> x.dig(25));
        Check.refuses("dig(-1)", NO_SUCH, () -> x.dig(-1));
        Check.refuses("block(25)", NO_SUCH, () -> x.block(25));
        Check.refuses("block(-1)", NO_SUCH, () -> x.block(-1));
        Check.due("each call that does not throw is an act", x.count(12), 4);
    }

    private static void rights() {
        TurfBog x = Check.bog("hearth hands 1 need 1");
        Check.due("given", x.right(0, 24, true), true);
        Check.due("given again", x.right(0, 24, true), false);
        Check.due("owners", x.cell(24, 16), 1);
        Check.due("taken", x.right(0, 24, false), true);
        Check.due("taken again", x.right(0, 24, false), false);
        Check.due("rights", x.hearth(0, 3), 0);
        Check.refuses("right(1, 0, true)", NO_SUCH, () -> x.right(1, 0, true));
        Check.refuses("right(0, 25, true)", NO_SUCH, () -> x.right(0, 25, true));
        Check.refuses("right(0, -1, false)", NO_SUCH, () -> x.right(0, -1, false));
    }

    private static void trades() {
        TurfBog x = Check.bog("hearth hands 1 need 1 store 10;hearth hands 1 need 1 store 995");
        Check.due("trade", x.trade(0, 1, 3), 998);
        Check.due("999 at most", x.trade(0, 1, 7), 999);
        Check.due("nothing is left", x.hearth(0, 2), 0);
        Check.refuses("less", CANNOT, () -> x.trade(0, 1, 1));
        Check.refuses("of none", BAD, () -> x.trade(1, 0, 0));
        Check.refuses("of too many", BAD, () -> x.trade(1, 0, 1000));
        Check.refuses("both are one", BAD, () -> x.trade(1, 1, 5));
        Check.refuses("no such hearth", NO_SUCH, () -> x.trade(1, 2, 0));
        Check.refuses("no such hearth, either", NO_SUCH, () -> x.trade(-1, 0, 5));
        Check.due("all", x.trade(1, 0, 999), 999);
        Check.due("acts", x.count(12), 3);
    }

    private static void skies() {
        TurfBog x = new TurfBog();
        Check.due("sun as it was", x.sky(9, true), 5);
        Check.due("sun", x.count(3), 9);
        Check.due("rain", x.count(5), 1);
        Check.due("sun as it was", x.sky(0, false), 9);
        Check.due("no rain", x.count(5), 0);
        Check.refuses("sky(10, true)", BAD, () -> x.sky(10, true));
        Check.refuses("sky(-1, true)", BAD, () -> x.sky(-1, true));
        Check.due("nothing changes", x.count(5), 0);
    }
}
