/** Promises 18 to 37: drains, guesses, hearths together, peat that hangs together, odds. */
public final class SearchTest {
    private static final Class<IllegalArgumentException> BAD = IllegalArgumentException.class;
    private static final Class<IndexOutOfBoundsException> NO_SUCH = IndexOutOfBoundsException.class;

    public static void main(String[] args) {
        drainedAndOpen();
        nets();
        floods();
        trunks();
        falls();
        placed();
        even();
        spits();
        hags();
        pairs();
        rests();
        odds();
        Check.finish();
    }

    private static void drainedAndOpen() {
        TurfBog x = Check.bog("drain 23 22 18 13 0 4 9;peat 0 1 1 1 1 1;water 0 3 4 3 0 3;turves 2 90;turves 3 89");
        Check.due("none without a drain at the outfall", x.drained(), 0);
        x.dig(24);
        Check.due("all that lead to it", x.drained(), Check.bits(24, 23, 22, 18, 13));
        x.dig(14);
        Check.due("more", x.drained(), Check.bits(24, 23, 22, 18, 13, 14, 9, 4));
        x.block(23);
        Check.due("cut off", x.drained(), Check.bits(24));
        Check.due("open", x.open(), Check.bits(0, 3, 4));
        Check.due("none are open", new TurfBog().open(), 0);
    }

    private static int net(TurfBog x, int... cells) {
        Check.put(x, cells);
        return x.net();
    }

    private static void nets() {
        TurfBog x = new TurfBog();
        Check.due("none told", net(x), 0);
        Check.due("the outfall", net(x, 24), 1);
        Check.due("one", net(x, 0), 9);
        Check.due("one twice", net(x, 0, 0), 9);
        Check.due("a way that parts", net(x, 4, 20), 9);
        Check.due("all corners", net(x, 0, 4, 20, 24), 13);
        Check.due("where ways part off all told", net(x, 13, 17), 5);
        Check.put(x, "drain 6 7 8 13 18 23");
        x.bog();
        Check.due("drains cost nothing, wherever they are", net(x, 11, 1, 3), 4);
        Check.put(x, 1, 2, 3, 4, 5);
        Check.refuses("five cells", BAD, x::net);
        Check.put(x, 25);
        Check.refuses("no cell", BAD, x::net);
        Check.due("nothing is left of it", x.end(1), false);
    }

    private static void floods() {
        TurfBog x = Check.bog("rain;water 7 8");
        Check.due("flood", x.flood(), 1);
        x.sky(5, false);
        Check.due("no flood", x.flood(), -1);
        Check.due("flood now", Check.bog("water 24 9").flood(), 0);
        Check.due("as it is in a new bog", new TurfBog().flood(), -1);
        Check.due("nothing stays", x.cell(7, 1), 8);
    }

    private static int told(TurfBog x, char what, int... bytes) {
        Check.put(x, bytes);
        switch (what) {
            case 't': return x.trunks();
            case 'l': return x.likely();
            case 'p': return x.probe();
            case 'c': return x.falls(false);
            case 'f': return x.falls(true);
            default: return x.ask();
        }
    }

    private static void trunks() {
        TurfBog x = new TurfBog();
        // Of lengths 2 to 5: 20, 15, 10, 5 rows each right and down; 16, 9, 4, 1 each aslant.
        Check.due("all", told(x, 't'), 2 * (20 + 15 + 10 + 5) + 2 * (16 + 9 + 4 + 1));
        Check.due("the first of all", told(x, 'l'), 0);
        Check.due("one aslant to the left", told(x, 'l', 4, 1, 8, 1, 12, 1, 16, 1, 20, 1), 379);
        Check.due("that one alone, and those with one wrong", told(x, 't', 4, 1, 8, 1, 12, 1, 16, 1, 20, 1), 3);
        Check.due("one right", told(x, 'l', 23, 1, 24, 1, 23, 1, 24, 1), 23);
        Check.due("one down", told(x, 'l', 19, 1, 24, 1, 19, 1, 24, 1), 44);
        Check.due("one right and down", told(x, 'l', 18, 1, 24, 1, 18, 1, 24, 1, 12, 0, 12, 0), 68);
        Check.due("two wrong", told(x, 't', 0, 1, 0, 1, 0, 0, 0, 0), 0);
        Check.due("none likely", told(x, 'l', 0, 1, 0, 1, 0, 0, 0, 0), -1);
        Check.due("none to probe for", told(x, 'p', 0, 1, 0, 1, 0, 0, 0, 0), -1);
        Check.due("one wrong row may be", told(x, 'l', 0, 0, 0, 1), 0);
        Check.due("all fit then", told(x, 't', 0, 0, 0, 1), 160);
        Check.due("probe the middle", told(x, 'p'), 12);
        Check.due("one fits alone", told(x, 't', 23, 1, 24, 1, 23, 1, 24, 1, 22, 0, 22, 0), 1);
        Check.due("no need to probe", told(x, 'p', 23, 1, 24, 1, 23, 1, 24, 1, 22, 0, 22, 0), -1);
        // Trunks 0 (0 and 1) and 100 (0 to 2) alone.
        int[] two = {0, 1, 0, 1, 1, 1, 1, 1, 3, 0, 3, 0};
        Check.due("two fit", told(x, 't', two), 2);
        Check.due("probe where one of them is alone", told(x, 'p', two), 2);
        for (char what : new char[] {'t', 'l', 'p'}) {
            Check.refuses("half a row", BAD, () -> told(x, what, 3));
            Check.refuses("no cell", BAD, () -> told(x, what, 25, 0));
            Check.refuses("neither hit nor not", BAD, () -> told(x, what, 24, 2));
            Check.refuses("41 bytes", BAD, () -> told(x, what, new int[42]));
        }
        Check.due("40 bytes", told(x, 't', new int[40]), 160 - 12);
    }

    private static void falls() {
        TurfBog x = new TurfBog();
        Check.due("all", told(x, 'c'), 2000);
        Check.due("first of all", told(x, 'f'), 0);
        Check.due("by the first day alone", told(x, 'c', 0, 7), 200);
        Check.due("first of these", told(x, 'f', 0, 7), 1400);
        Check.due("one in 3 days, to 5", told(x, 'f', 0, 7, 2, 7, 3, 6, 99, 5), 1425);
        Check.due("that one alone", told(x, 'c', 0, 7, 2, 7, 3, 6, 99, 5), 1);
        Check.due("no day to ask for", told(x, 'a', 0, 7, 2, 7, 3, 6, 99, 5), -1);
        Check.due("the least is that of day 0, if that is less", told(x, 'c', 99, 0, 0, 0), 200);
        Check.due("none", told(x, 'c', 0, 3, 1, 4), 0);
        Check.due("first of none", told(x, 'f', 0, 3, 1, 4), -1);
        Check.due("no day of none", told(x, 'a', 0, 3, 1, 4), -1);
        Check.due("all alike: the first day", told(x, 'a', 0, 0), 0);
        Check.due("water 1: to 0 or not", told(x, 'a', 0, 1), 20);
        // From 9 to 0 by day 20: by one each day, or each second day; these are parted on day 1.
        Check.due("by days", told(x, 'a', 0, 9, 99, 0, 20, 0), 1);
        for (char what : new char[] {'c', 'f', 'a'}) {
            Check.refuses("half a row", BAD, () -> told(x, what, 3, 3, 3));
            Check.refuses("no day", BAD, () -> told(x, what, 100, 0));
            Check.refuses("no water", BAD, () -> told(x, what, 99, 10));
            Check.refuses("42 bytes", BAD, () -> told(x, what, new int[42]));
        }
        Check.due("40 bytes", told(x, 'c', new int[40]), 200);
    }

    private static void placed() {
        TurfBog x = Check.bog("peat 5 3 4 9 2;water 5 0 0 4 0;hearth hands 1 need 0;hearth hands 1 need 0;"
                + "hearth hands 1 need 0;right 0 5 6 7;right 1 6 8;right 2 6 7");
        Check.due("how much", x.placed(-1), 9);
        Check.due("the first", x.placed(0), 5);
        Check.due("the second", x.placed(1), 8);
        Check.due("the third", x.placed(2), 6);
        TurfBog y = Check.bog("peat 5 3;water 5 0;hearth hands 1 need 0;hearth hands 1 need 0;right 0 5;right 1 5");
        Check.due("none is the least", y.placed(0), -1);
        Check.due("so the other one is", y.placed(1), 5);
        TurfBog z = Check.bog("peat 5 3 3;water 5 0 0;hearth hands 1 need 0;hearth hands 1 need 0;right 0 5 6;right 1 6 5");
        Check.due("the first such way", z.placed(0), 5);
        Check.due("and the rest of it", z.placed(1), 6);
        Check.due("without hearths", new TurfBog().placed(-1), 0);
        TurfBog six = Check.bog("peat 0 1 2 3 4 5 6;water 0 0 0 0 0 0 0;" + "hearth hands 1 need 0;".repeat(6) + "right 0 5 0;"
                + "right 1 5 1;right 2 5 2;right 3 5 3;right 4 5 4;right 5 4");
        Check.due("six", six.placed(-1), 21);
        int[] where = {0, 1, 2, 3, 5, 4};
        for (int h = 0; h < where.length; h++) {
            Check.due("where " + h + " is", six.placed(h), where[h]);
        }
        Check.refuses("placed(2)", NO_SUCH, () -> z.placed(2));
        Check.refuses("placed(-2)", NO_SUCH, () -> z.placed(-2));
        Check.refuses("placed(0) without hearths", NO_SUCH, () -> new TurfBog().placed(0));
    }

    private static void even() {
        String hearth = "hearth hands 1 need 1 store ";
        Check.due("without hearths", new TurfBog().even(), 0);
        Check.due("one", Check.bog(hearth + 999).even(), 0);
        Check.due("even already", Check.bog(hearth + 4 + ";" + hearth + 5).even(), 0);
        Check.due("two", Check.bog(hearth + 10 + ";" + hearth + 3).even(), 3);
        Check.due("three", Check.bog(hearth + 10 + ";" + hearth + 10 + ";" + hearth + 0).even(), 6);
        Check.due("three with one spare", Check.bog(hearth + 7 + ";" + hearth + 0 + ";" + hearth + 0).even(), 4);
        Check.due("one spare for one of two", Check.bog(hearth + 6 + ";" + hearth + 6 + ";" + hearth + 1).even(), 3);
    }

    private static void spits() {
        TurfBog x = Check.bog("peat 0 4 5 6 3 8 1 9");
        Check.due("four are lost", x.last(Check.bits(0)), false);
        Check.due("four and eight, too", x.last(Check.bits(0, 4)), false);
        Check.due("no spit then", x.spit(Check.bits(0, 4)), -1);
        Check.due("five are won", x.last(Check.bits(1)), true);
        Check.due("by one", x.spit(Check.bits(1)), 5);
        Check.due("two of six", x.spit(Check.bits(2)), 10);
        Check.due("of several the least", x.spit(Check.bits(1, 3)), 6);
        Check.due("a cut of four to three", x.spit(Check.bits(0, 3)), 1);
        Check.due("5 and 9 are alike", x.last(Check.bits(1, 6)), false);
        Check.due("others count for nothing", x.last(-1 << 25), false);
        Check.due("nor for a spit", x.spit(-1 << 25), -1);
        Check.due("of none", x.last(0), false);
        Check.due("of no peat", x.last(Check.bits(20)), false);
    }

    private static void hags() {
        TurfBog x = Check.bog("peat 0 1 1 1 0 1 0 1 0 0 1 0 1 0 0 0;peat 24 1");
        Check.due("hags", x.hags(), 3);
        Check.due("hag", x.hag(6), Check.bits(0, 1, 2, 6, 11));
        Check.due("hag", x.hag(9), Check.bits(4, 9));
        Check.due("alone", x.hag(24), Check.bits(24));
        Check.due("not round the edge", x.hag(3), 0);
        Check.due("bridges", x.bridges(), Check.bits(1, 6));
        Check.due("far", x.far(0, 11), 3);
        Check.due("far back", x.far(11, 0), 3);
        Check.due("not to be come to", x.far(0, 4), -1);
        Check.due("of one", x.far(24, 24), 0);
        Check.due("of one without depth", x.far(3, 3), -1);
        Check.due("from one without depth", x.far(3, 2), -1);
        Check.due("no hags", new TurfBog().hags(), 0);
        Check.due("no bridges", new TurfBog().bridges(), 0);
        Check.due("a ring has none", Check.bog("peat 0 1 1 1;peat 5 1 0 1;peat 10 1 1 1").bridges(), 0);
        TurfBog y = Check.bog("peat 0 1 1 1 1 1 0 0 0 0 1 1 1 1 1 1 1 0 0 0 0 1 1 1 1 1");
        Check.due("the farthest", y.far(0, 24), 16);
        Check.refuses("hag(25)", NO_SUCH, () -> x.hag(25));
        Check.refuses("hag(-1)", NO_SUCH, () -> x.hag(-1));
        Check.refuses("far(0, 25)", NO_SUCH, () -> x.far(0, 25));
        Check.refuses("far(-1, 0)", NO_SUCH, () -> x.far(-1, 0));
    }

    private static void pairs() {
        String hearth = "hearth hands 1 need 1;";
        TurfBog x = Check.bog(hearth.repeat(5) + "right 0 1 2 3;right 1 1 2 3 4 5;right 2 4 5;right 3 3 9;right 4 9");
        // 0 with 1 shares 3, 1 with 2 shares 2, 0 with 3 shares 1, 3 with 4 shares 1.
        Check.due("how many", x.pairs(-1), 4);
        int[] with = {1, 0, -1, 4, 3};
        for (int h = 0; h < with.length; h++) {
            Check.due("with whom " + h + " is", x.pairs(h), with[h]);
        }
        TurfBog six = Check.bog(hearth.repeat(6) + "right 0 1 2;right 5 1 2 3;right 4 3;right 1 8 9 7;right 3 7 8;right 2 9");
        Check.due("six", six.pairs(-1), 4);
        int[] others = {5, 3, -1, 1, -1, 0};
        for (int h = 0; h < others.length; h++) {
            Check.due("with whom " + h + " of six is", six.pairs(h), others[h]);
        }
        TurfBog z = Check.bog(hearth.repeat(3) + "right 0 7;right 1 7;right 2 7");
        Check.due("none is the least", z.pairs(0), -1);
        Check.due("so the others are two", z.pairs(1), 2);
        Check.due("without hearths", new TurfBog().pairs(-1), 0);
        Check.refuses("pairs(3)", NO_SUCH, () -> z.pairs(3));
        Check.refuses("pairs(-2)", NO_SUCH, () -> z.pairs(-2));
    }

    private static void rests() {
        TurfBog x = Check.bog("hearth hands 3 need 99;hearth hands 3 need 9;hearth hands 1 need 19;sun 9");
        // 0 and 1: both cutting 0 and 0; alone 3 and -9 or 0; both waiting 4 and 4.
        Check.due("both cut, or both wait", x.rests(0, 1), Check.bits(0, 3));
        // 0 and 2: both cutting 2 and -2; alone 3 and -1, 1 and -9; both waiting 4 and 4.
        Check.due("the weak one waits", x.rests(0, 2), Check.bits(3));
        x.sky(0, false);
        // both waiting -5 each.
        Check.due("the weak one waits while the strong one cuts", x.rests(0, 2), Check.bits(1));
        Check.due("seen from the other one", x.rests(2, 0), Check.bits(2));
        Check.due("none of which one would leave", x.rests(0, 1), Check.bits(0, 1));
        Check.refuses("both are one", BAD, () -> x.rests(1, 1));
        Check.refuses("no such hearth", NO_SUCH, () -> x.rests(3, 3));
        Check.refuses("no such hearth", NO_SUCH, () -> x.rests(0, -1));
    }

    private static void odds() {
        TurfBog x = Check.bog("shower 30");
        Check.due("once in one", x.odds(1, 1), 3000);
        Check.due("once in five", x.odds(5, 1), 8319);
        Check.due("five in five", x.odds(5, 5), 24);
        Check.due("more than there are", x.odds(2, 3), 0);
        Check.due("none at least", x.odds(5, 0), 10000);
        Check.due("never", new TurfBog().odds(5, 1), 0);
        Check.due("always", Check.bog("shower 100").odds(5, 5), 10000);
        Check.refuses("odds(6, 0)", BAD, () -> x.odds(6, 0));
        Check.refuses("odds(-1, 0)", BAD, () -> x.odds(-1, 0));
        Check.refuses("odds(0, 6)", BAD, () -> x.odds(0, 6));
        Check.refuses("odds(0, -1)", BAD, () -> x.odds(0, -1));
    }
}
