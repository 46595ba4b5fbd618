/** Promises 18 to 37: each sentence of the document that names a boundary case. */
public final class SearchEdgesTest {
    private static final Class<IllegalArgumentException> BAD = IllegalArgumentException.class;
    private static final Class<IndexOutOfBoundsException> NO_SUCH = IndexOutOfBoundsException.class;
    private static final String HEARTH = "hearth hands 1 need 1;";

    public static void main(String[] args) {
        drainedAndOpen();
        netTold();
        netCosts();
        flood();
        trunkRows();
        trunksInTheBog();
        oneMayBeWrong();
        likely();
        probe();
        fallRows();
        fallBounds();
        fallLeast();
        ask();
        placedOnes();
        placedFirst();
        even();
        last();
        spit();
        hags();
        bridges();
        far();
        pairedOnes();
        rests();
        restsBounds();
        odds();
        Check.finish();
    }

    private static int told(TurfBog x, char what, int... bytes) {
        Check.put(x, bytes);
        switch (what) {
            case 'n': return x.net();
            case 't': return x.trunks();
            case 'l': return x.likely();
            case 'p': return x.probe();
            case 'c': return x.falls(false);
            case 'f': return x.falls(true);
            default: return x.ask();
        }
    }

    /** What is told is refused, and the tape is used up. */
    private static void refused(String what, char call, int... bytes) {
        TurfBog x = new TurfBog();
        Check.refuses(call + " of " + what, BAD, () -> told(x, call, bytes));
        Check.due(call + " of " + what + ": the tape is used up", Check.tapeHas(x, 0), true);
    }

    // ---- drains ----

    private static void drainedAndOpen() {
        Check.says("DRAINED ones, as bits.");
        TurfBog x = new TurfBog();
        Check.due("none", x.drained(), 0);
        for (int cell = 0; cell < 25; cell++) {
            x.dig(cell);
        }
        Check.due("all", x.drained(), (1 << 25) - 1);
        x.block(24);
        Check.due("none without that of the outfall", x.drained(), 0);
        Check.says("OPEN ones, as bits.");
        Check.due("none", x.open(), 0);
        TurfBog y = Check.bog("peat 0" + " 1".repeat(25) + ";water 0" + " 3".repeat(25));
        Check.due("all", y.open(), (1 << 25) - 1);
    }

    private static void netTold() {
        Check.says("told are CELLS (bytes; at most 4, a CELL twice, too)");
        TurfBog x = new TurfBog();
        Check.due("four", told(x, 'n', 0, 4, 20, 24), 13);
        Check.due("one twice", told(x, 'n', 0, 0), 9);
        Check.due("one four times", told(x, 'n', 0, 0, 0, 0), 9);
        Check.due("two twice", told(x, 'n', 23, 19, 23, 19), 3);
        refused("five", 'n', 0, 4, 20, 24, 12);
        refused("one five times", 'n', 0, 0, 0, 0, 0);
        refused("cell 25", 'n', 25);
        refused("cell 255", 'n', 255);
        refused("cell 128", 'n', 128);
        refused("a last one that is none", 'n', 0, 1, 2, 25);
        refused("twenty", 'n', new int[20]);
        Check.says("IllegalArgumentException: the TAPE is not that (none may be told).");
        Check.due("none", told(x, 'n'), 0);
        Check.due("the last cell", told(x, 'n', 24), 1);
        Check.due("it is used up", Check.tapeHas(x, 0), true);
    }

    private static void netCosts() {
        Check.says("the fewest CELLS to be given a DRAIN so that all of these are DRAINED "
                + "(0, if none is told; CELLS that have a DRAIN cost nothing, wherever they are)");
        TurfBog x = Check.bog("drain 0 1 2 3 4 9 14 19", "drain 10 15");
        Check.due("none, without a drain at the outfall", told(x, 'n'), 0);
        Check.due("of a drain, but for that of the outfall", told(x, 'n', 0), 1);
        Check.due("all drains but that one", told(x, 'n', 0, 4, 9, 19), 1);
        Check.due("one that leads nowhere, by a gap", told(x, 'n', 15), 2);
        x.dig(24);
        Check.due("all are drained", told(x, 'n', 0, 4, 9, 24), 0);
        Check.due("one gap serves two", told(x, 'n', 10, 15), 1);
        Check.due("beside one of these", told(x, 'n', 20, 5), 2);
        Check.due("a net is told, not dug", x.count(10), 11);
        TurfBog y = new TurfBog();
        Check.due("a branch off all told ones", told(y, 'n', 13, 17), 5);
        Check.due("not round the edge", told(y, 'n', 20), 5);
    }

    private static void flood() {
        Check.says("FLOOD: the first N (0 to 60) IN which WATER is 9 in some CELL; none.");
        Check.due("now", Check.bog("water 0 9").flood(), 0);
        Check.due("now, in the last", Check.bog("water 24 9").flood(), 0);
        Check.says("FLOOD; NONE.");
        Check.due("8 and no rain", Check.bog("water 24 8").flood(), -1);
        Check.due("8 and rain", Check.bog("water 24 8;rain").flood(), 1);
        Check.due("from none on", Check.bog("rain;water 0" + " 0".repeat(25)).flood(), 9);
        TurfBog x = Check.bog("rain", "drain 24 22 20 14 12 10 4 2", "drain 0 23 19 21 15 13 11", "drain 5 6 7 8 9 1 3 16", "drain 17 18");
        Check.due("never, where all is drained", x.flood(), -1);
        x.block(0);
        Check.due("never, where all lets", x.flood(), -1);
        x.block(1);
        x.block(5);
        Check.due("but where one does not", x.flood(), 4);
        Check.due("nothing stays", x.cell(0, 1), 5);
    }

    // ---- trunks ----

    private static void trunkRows() {
        Check.says("(of each two bytes: the CELL, 1 or 0; at most 40 bytes)");
        TurfBog x = new TurfBog();
        Check.due("40 bytes", told(x, 't', new int[40]), 148);
        Check.due("one row", told(x, 't', 24, 1), 160);
        Check.says("Told are rows: a CELL and whether it was hit there (1) or not (0)");
        for (char call : new char[] {'t', 'l', 'p'}) {
            refused("one byte", call, 0);
            refused("three", call, 0, 0, 0);
            refused("41", call, new int[41]);
            refused("42", call, new int[42]);
            refused("60", call, new int[60]);
            refused("cell 25", call, 25, 0);
            refused("cell 255", call, 255, 1);
            refused("2 for a hit", call, 24, 2);
            refused("255 for a hit", call, 24, 255);
            refused("a last row that is none", call, 0, 0, 24, 1, 25, 1);
        }
        Check.says("how many fit. IllegalArgumentException: the TAPE is not that (none may be told).");
        Check.due("none told: all", told(x, 't'), 160);
        Check.due("none told: the first of all", told(x, 'l'), 0);
        Check.due("it is used up", Check.tapeHas(x, 0), true);
    }

    private static void trunksInTheBog() {
        Check.says("a trunk is a row of 2 to 5 CELLS, from a CELL on, each next one to the right (0), down (1), "
                + "right and down (2), left and down (3): all in the bog; its number: 100 times its LENGTH less 2, "
                + "and 25 times the way, and the CELL where it begins.");
        TurfBog x = new TurfBog();
        int[][] ends = {{0, 4, 300}, {20, 24, 320}, {0, 20, 325}, {4, 24, 329}, {0, 24, 350}, {4, 20, 379}, {5, 9, 305},
            {1, 21, 326}};
        for (int[] one : ends) {
            int[] rows = {one[0], 1, one[0], 1, one[1], 1, one[1], 1};
            Check.due("one alone holds " + one[0] + " and " + one[1], told(x, 't', rows), 1);
            Check.due("its number", told(x, 'l', rows), one[2]);
        }
        int[][] none = {{4, 5}, {9, 10}, {19, 20}, {5, 14}, {0, 7}, {0, 9}, {20, 13}};
        for (int[] one : none) {
            Check.due("none holds " + one[0] + " and " + one[1],
                    told(x, 't', one[0], 1, one[0], 1, one[1], 1, one[1], 1), 0);
        }
        Check.due("two cells, right", told(x, 'l', 3, 1, 3, 1, 4, 1, 4, 1, 2, 0, 2, 0), 3);
        Check.due("two cells, down", told(x, 'l', 19, 1, 19, 1, 24, 1, 24, 1, 14, 0, 14, 0), 44);
        Check.due("two cells, right and down", told(x, 'l', 18, 1, 18, 1, 24, 1, 24, 1, 12, 0, 12, 0), 68);
        Check.due("two cells, left and down", told(x, 'l', 16, 1, 16, 1, 20, 1, 20, 1, 12, 0, 12, 0), 91);
        Check.due("three cells", told(x, 'l', 16, 1, 16, 1, 20, 1, 20, 1, 12, 1, 12, 1, 8, 0, 8, 0), 187);
    }

    private static void oneMayBeWrong() {
        Check.says("at most one may be wrong: trunks that fit: how many");
        TurfBog x = new TurfBog();
        Check.due("one row: all", told(x, 't', 0, 1), 160);
        // Twelve trunks hold cell 0: right, down, and right and down, of 2 to 5 cells each.
        Check.due("told twice", told(x, 't', 0, 1, 0, 1), 12);
        Check.due("told three times, once otherwise", told(x, 't', 0, 1, 0, 0, 0, 1), 12);
        Check.due("told twice each", told(x, 't', 0, 1, 0, 0, 0, 1, 0, 0), 0);
        Check.due("told that it is not there", told(x, 't', 0, 0, 0, 0), 148);
        // Two of these three at least: 0 or 1 to the right of 2, 3 or 4 cells, or all of the row.
        Check.due("three hits in a row", told(x, 't', 0, 1, 1, 1, 2, 1), 7);
    }

    private static void likely() {
        Check.says("LIKELY: of the fewest wrong rows the one of the least number; none");
        TurfBog x = new TurfBog();
        Check.due("one with none wrong ahead of lesser ones with one", told(x, 'l', 0, 1, 24, 1), 350);
        Check.due("the least of those with none wrong", told(x, 'l', 12, 1), 11);
        Check.due("the least of those with one wrong", told(x, 'l', 12, 1, 12, 0), 0);
        Check.says("LIKELY (the TAPE likewise); NONE.");
        Check.due("none with two wrong each", told(x, 'l', 12, 1, 12, 0, 12, 1, 12, 0), -1);
        Check.due("the last of all", told(x, 'l', 4, 1, 8, 1, 12, 1, 16, 1, 20, 1, 4, 1, 20, 1), 379);
    }

    private static void probe() {
        Check.says("so that the greater part is the least (of several the least; none with fewer than two)");
        TurfBog x = new TurfBog();
        Check.due("of all", told(x, 'p'), 12);
        Check.says("PROBE (the TAPE likewise); NONE.");
        Check.due("none fit", told(x, 'p', 12, 1, 12, 0, 12, 1, 12, 0), -1);
        Check.due("one fits", told(x, 'p', 0, 1, 0, 1, 24, 1, 24, 1), -1);
        // Of 12, not of 10, 14 and what is above or below: {11, 12}, {12, 13}, {11, 12, 13}.
        int[] three = {12, 1, 12, 1, 10, 0, 10, 0, 14, 0, 14, 0, 7, 0, 7, 0, 17, 0, 17, 0, 6, 0, 6, 0, 18, 0, 18, 0, 8, 0, 8, 0, 16, 0, 16, 0};
        Check.due("three fit", told(x, 't', three), 3);
        Check.due("11 and 13 part them alike", told(x, 'p', three), 11);
        // Of 1, not of 3 and what is below: {0, 1}, {1, 2}, {0, 1, 2}.
        int[] first = {1, 1, 1, 1, 3, 0, 3, 0, 5, 0, 5, 0, 6, 0, 6, 0, 7, 0, 7, 0};
        Check.due("three others fit", told(x, 't', first), 3);
        Check.due("0 and 2 part them alike", told(x, 'p', first), 0);
        Check.due("those with one wrong row fit, too", told(x, 'p', 12, 1), 12);
        Check.due("also with two that gainsay one another", told(x, 'p', 0, 1, 0, 0), 12);
        int[] two = {0, 1, 0, 1, 1, 1, 1, 1, 3, 0, 3, 0};
        Check.due("two fit", told(x, 't', two), 2);
        Check.due("2 parts them", told(x, 'p', two), 2);
    }

    // ---- falls ----

    private static void fallRows() {
        Check.says("(of each two bytes: the day, WATER; at most 40 bytes)");
        TurfBog x = new TurfBog();
        Check.due("40 bytes", told(x, 'c', new int[40]), 200);
        Check.says("FALLS: told are rows: a day (0 to 99) and the WATER then (0 to 9)");
        Check.due("day 99 and water 9", told(x, 'c', 99, 9), 20);
        for (char call : new char[] {'c', 'f', 'a'}) {
            refused("one byte", call, 0);
            refused("three", call, 0, 0, 0);
            refused("41", call, new int[41]);
            refused("42", call, new int[42]);
            refused("day 100", call, 100, 0);
            refused("day 255", call, 255, 0);
            refused("water 10", call, 0, 10);
            refused("water 255", call, 0, 255);
            refused("a last row that is none", call, 0, 9, 99, 0, 100, 0);
        }
        Check.says("how many fit (first false), or FIRST; NONE. IllegalArgumentException: the TAPE is not that (none may be told).");
        Check.due("none told: all", told(x, 'c'), 2000);
        Check.due("none told: the first of all", told(x, 'f'), 0);
        Check.due("none fit", told(x, 'c', 5, 5, 5, 6), 0);
        Check.due("first of none", told(x, 'f', 5, 5, 5, 6), -1);
        Check.due("it is used up", Check.tapeHas(x, 0), true);
    }

    private static void fallBounds() {
        Check.says("unknown are the WATER of day 0 (0 to 9), in how many days it is 1 less (1 to 20) and the least that it "
                + "comes to (0 to 9)");
        TurfBog x = new TurfBog();
        Check.due("from 0", told(x, 'f', 0, 0), 0);
        Check.due("from 9", told(x, 'f', 0, 9), 1800);
        Check.due("in 1 day", told(x, 'c', 0, 9, 1, 8), 9);
        Check.due("the first of these", told(x, 'f', 0, 9, 1, 8), 1800);
        Check.due("not two in a day", told(x, 'c', 0, 9, 1, 7), 0);
        Check.due("in 20 days", told(x, 'c', 0, 9, 19, 9, 20, 8), 9);
        Check.due("the first of these", told(x, 'f', 0, 9, 19, 9, 20, 8), 1990);
        Check.due("not in 21: it is the least", told(x, 'c', 0, 9, 20, 9), 20);
        Check.due("the first of these", told(x, 'f', 0, 9, 20, 9), 1809);
        Check.due("not from 10", told(x, 'f', 1, 9, 2, 8, 3, 7), -1);
        Check.due("none of these", told(x, 'c', 1, 9, 2, 8, 3, 7), 0);
        Check.due("to 0", told(x, 'f', 0, 9, 9, 0), 1800);
        Check.due("to 0 alone", told(x, 'c', 0, 9, 9, 0), 1);
        Check.due("to 8", told(x, 'c', 0, 9, 1, 8, 99, 8), 1);
        Check.due("its number", told(x, 'f', 0, 9, 1, 8, 99, 8), 1808);
    }

    private static void fallLeast() {
        Check.says("but no less than the least (that of day 0, if that is less)");
        TurfBog x = new TurfBog();
        Check.due("of 3 or more it stays", told(x, 'c', 0, 3, 99, 3), 140);
        Check.due("the first of these", told(x, 'f', 0, 3, 99, 3), 603);
        Check.due("it never rises to the least", told(x, 'c', 0, 3, 99, 4), 0);
        Check.due("and of 0 it is 0", told(x, 'c', 0, 0, 99, 0), 200);
        Check.due("never below 0", told(x, 'c', 0, 1, 99, 0), 20);
    }

    private static void ask() {
        Check.says("so that the greatest part is the least (of several the least; none with fewer than two)");
        TurfBog x = new TurfBog();
        Check.says("ASK (the TAPE as for FALLS); NONE.");
        Check.due("none fit", told(x, 'a', 5, 5, 5, 6), -1);
        Check.due("one fits", told(x, 'a', 0, 9, 9, 0), -1);
        Check.due("none told: all fit, 200 by each water of day 0", told(x, 'a'), 0);
        Check.due("all that fit are alike", told(x, 'a', 0, 0), 0);
        Check.due("late", told(x, 'a', 0, 9), 90);
        Check.due("one in 20 days is parted last", told(x, 'a', 0, 1), 20);
        // From 9 by 1 a day, the least 0 to 8: on day 8 two are alike still.
        Check.due("the first day that parts all", told(x, 'a', 0, 9, 1, 8), 9);
    }

    // ---- hearths together ----

    private static void placedOnes() {
        Check.says("PLACED: how much (hearth NONE), or where one is; NONE.");
        TurfBog x = new TurfBog();
        Check.due("without hearths", x.placed(-1), 0);
        Check.refuses("placed(0) without hearths", NO_SUCH, () -> x.placed(0));
        TurfBog y = Check.bog(HEARTH.repeat(6) + "right 0 0;right 5 24;peat 24 9;peat 0 9;water 24 3;water 0 4");
        Check.due("how much", y.placed(-1), 9);
        Check.due("with none open", y.placed(0), -1);
        Check.due("without rights", y.placed(1), -1);
        Check.due("the last in the last", y.placed(5), 24);
        for (int hearth : new int[] {6, 7, -2, Integer.MIN_VALUE, Integer.MAX_VALUE}) {
            Check.refuses("placed(" + hearth + ")", NO_SUCH, () -> y.placed(hearth));
        }
        Check.due("nothing is cut", y.count(7), 18);
    }

    private static void placedFirst() {
        Check.says("HEARTHS put to OPEN CELLS of their RIGHTS, each to one at most, each CELL for one at most");
        TurfBog x = Check.bog(HEARTH.repeat(2) + "right 0 5 6;right 1 5;peat 5 9 1;water 5 0 0");
        Check.due("both", x.placed(-1), 10);
        Check.due("the first gives way", x.placed(0), 6);
        Check.due("to the other one", x.placed(1), 5);
        TurfBog one = Check.bog(HEARTH + "right 0 5 6;peat 5 9 8;water 5 0 0");
        Check.due("one cell for one", one.placed(-1), 9);
        Check.says("where a HEARTH is in the first such way (HEARTH by HEARTH, none being the least, then the CELLS); none.");
        TurfBog like = Check.bog(HEARTH.repeat(3) + "right 0 5 6;right 1 6 5;right 2 5 6;peat 5 4 4;water 5 0 0");
        int[] due = {-1, 5, 6};
        for (int hearth = 0; hearth < due.length; hearth++) {
            Check.due("where " + hearth + " is", like.placed(hearth), due[hearth]);
        }
        TurfBog six = Check.bog(HEARTH.repeat(6) + "right 0 0 1 2 3 4 5;right 1 0 1 2 3 4 5;right 2 0 1 2 3 4 5;right 3 0 1 2 3 4 5",
                "right 4 0 1 2 3 4 5;right 5 0 1 2 3 4 5;peat 0 9 9 9 9 9 9;water 0 0 0 0 0 0 0");
        Check.due("six in six", six.placed(-1), 54);
        for (int hearth = 0; hearth < 6; hearth++) {
            Check.due("where " + hearth + " of six is", six.placed(hearth), hearth);
        }
    }

    private static void even() {
        Check.says("STORES of all made as even as can be (none more than 1 above another one) by as few TURVES traded as can be: "
                + "how many (0 without HEARTHS).");
        Check.due("without hearths", new TurfBog().even(), 0);
        int[][] stores = {{999}, {0, 0}, {5, 4}, {5, 3}, {5, 2}, {999, 0}, {999, 999, 999, 999, 999, 0}, {2, 0, 0}, {0, 1, 2}, {3, 3, 0, 0},
            {7, 7, 7, 7, 7, 6}, {5, 0, 0, 0, 0, 0}, {7, 0, 0, 0, 0, 0}, {3, 3, 2, 2, 0}, {0, 3}, {0, 0, 5}, {1, 0, 0, 9}};
        int[] due = {0, 0, 0, 1, 1, 499, 832, 1, 1, 2, 0, 4, 5, 2, 1, 3, 6};
        for (int i = 0; i < stores.length; i++) {
            StringBuilder text = new StringBuilder();
            for (int store : stores[i]) {
                text.append(text.length() == 0 ? "" : ";").append("hearth hands 1 need 1 store ").append(store);
            }
            Check.due("even of row " + i, Check.bog(text.toString()).even(), due[i]);
        }
    }

    private static void last() {
        Check.says("each 1 to 3 spits of one of these CELLS (no more than its DEPTH); who cuts the last one wins");
        TurfBog x = Check.bog("peat 0 0 1 2 3 4 5 6 7 8 9");
        boolean[] wins = {false, true, true, true, false, true, true, true, false, true};
        for (int depth = 0; depth < wins.length; depth++) {
            Check.due("of depth " + depth, x.last(1 << depth), wins[depth]);
        }
        for (int depth = 2; depth < wins.length; depth++) {
            Check.due("of depths " + depth + " and 1", x.last(1 << depth | 2), depth % 4 != 1);
        }
        Check.due("two alike", x.last(Check.bits(2, 6)), false);
        Check.due("1, 2 and 3", x.last(Check.bits(1, 2, 3)), false);
        Check.says("LAST (CELLS 0 to 24; others count for nothing).");
        Check.due("of none", x.last(0), false);
        Check.due("of others alone", x.last(-1 << 25), false);
        Check.due("of others, too", x.last(-1 << 25 | 2), true);
        Check.due("of the sign bit", x.last(Integer.MIN_VALUE), false);
        Check.due("of all", x.last(-1), x.last((1 << 25) - 1));
        Check.due("the last cell", Check.bog("peat 24 1").last(1 << 24), true);
        Check.due("the first cell", Check.bog("peat 0 1").last(1), true);
        Check.says("Sets are bits; of none they count for nothing.");
        Check.due("a bit of none beside one of some", Check.bog("peat 0 4 1").last(1 << 25 | 1), false);
    }

    private static void spit() {
        Check.says("SPIT: her first cut so: 4 times the CELL and how many (of several the least); none, if she does not.");
        TurfBog x = Check.bog("peat 0 0 1 2 3 4 5 6 7 8 9;peat 24 3");
        int[] due = {-1, 1, 2, 3, -1, 1, 2, 3, -1, 1};
        for (int depth = 0; depth < due.length; depth++) {
            Check.due("of depth " + depth, x.spit(1 << depth), due[depth] < 0 ? -1 : 4 * depth + due[depth]);
        }
        Check.due("in the last cell", x.spit(1 << 24), 99);
        Check.due("in the first cell", Check.bog("peat 0 3").spit(1), 3);
        Check.due("of others alone", x.spit(-1 << 25), -1);
        Check.due("of others, too", x.spit(-1 << 25 | 1 << 3), 15);
        Check.due("of none", x.spit(0), -1);
        // Of 1, 3 and 7 the 1 may be cut to 0, or the 3 to 2, or the 7 to 6.
        Check.due("several: the least cell", x.spit(Check.bits(1, 3, 7)), 5);
        // 3 and 4: of 3 all three, or of 4 one.
        Check.due("several: 3 by 3 ahead of 4 by 1", x.spit(Check.bits(3, 4)), 15);
        Check.due("no more than its depth", x.spit(Check.bits(1, 2)), 9);
        Check.due("nothing is cut", x.count(7), 48);
    }

    // ---- peat ----

    private static void hags() {
        Check.says("HAGS: in how many pieces CELLS of DEPTH above 0 fall by BESIDE. HAG of a CELL: its piece, as bits (0 of DEPTH 0).");
        TurfBog none = new TurfBog();
        Check.due("none", none.hags(), 0);
        Check.due("hag of depth 0", none.hag(0), 0);
        TurfBog all = Check.bog("peat 0" + " 9".repeat(25));
        Check.due("all are one", all.hags(), 1);
        Check.due("hag of all", all.hag(24), (1 << 25) - 1);
        TurfBog most = Check.bog("peat 0" + " 1 0".repeat(12) + " 1");
        Check.due("aslant they do not hang together", most.hags(), 13);
        Check.due("hag of one alone", most.hag(12), 1 << 12);
        Check.due("hag of depth 0 beside peat", most.hag(13), 0);
        TurfBog edge = Check.bog("peat 4 1 1;peat 9 1 1");
        Check.due("not round the edge", edge.hags(), 2);
        Check.due("hag at the edge", edge.hag(4), Check.bits(4, 9));
        Check.due("hag at the other edge", edge.hag(5), Check.bits(5, 10));
        TurfBog winds = Check.bog("peat 0 1 1 1 1 1 0 0 0 0 1 1 1 1 1 1 1 0 0 0 0 1 1 1 1 1");
        Check.due("one that winds", winds.hags(), 1);
        Check.due("from its end", winds.hag(24), winds.hag(0));
    }

    private static void bridges() {
        Check.says("BRIDGES: CELLS of DEPTH above 0 without which there are more HAGS (never one that is a HAG alone), as bits.");
        Check.due("of none", new TurfBog().bridges(), 0);
        Check.due("of one alone", Check.bog("peat 12 1").bridges(), 0);
        Check.due("of two", Check.bog("peat 12 1 1").bridges(), 0);
        Check.due("of three", Check.bog("peat 11 1 1 1").bridges(), Check.bits(12));
        Check.due("of four round", Check.bog("peat 0 1 1;peat 5 1 1").bridges(), 0);
        Check.due("of three, and one alone", Check.bog("peat 0 1 1 1;peat 24 1").bridges(), Check.bits(1));
        Check.due("of all", Check.bog("peat 0" + " 1".repeat(25)).bridges(), 0);
        Check.due("of a cross", Check.bog("peat 7 1;peat 11 1 1 1;peat 17 1").bridges(), Check.bits(12));
        Check.due("of the last corner", Check.bog("peat 23 1 1;peat 19 1").bridges(), Check.bits(24));
        Check.due("of the first corner", Check.bog("peat 0 1 1;peat 5 1").bridges(), Check.bits(0));
    }

    private static void far() {
        Check.says("FAR (0 of one CELL of DEPTH above 0); NONE (also if one has no DEPTH).");
        TurfBog x = Check.bog("peat 0 1 1 1 1 1 0 0 0 0 1 1 1 1 1 1 1 0 0 0 0 1 1 1 1 1");
        Check.due("of one", x.far(0, 0), 0);
        Check.due("of one of no depth", x.far(5, 5), -1);
        Check.due("to one of no depth", x.far(0, 5), -1);
        Check.due("from one of no depth", x.far(5, 0), -1);
        Check.due("the farthest", x.far(0, 24), 16);
        Check.due("and back", x.far(24, 0), 16);
        TurfBog y = Check.bog("peat 4 1 1;peat 24 1");
        Check.due("not round the edge", y.far(4, 5), -1);
        Check.due("of two pieces", y.far(4, 24), -1);
        Check.due("the last", y.far(24, 24), 0);
    }

    // ---- hearths two by two ----

    private static void pairedOnes() {
        Check.says("PAIRS: how many (hearth NONE), or with whom one is; NONE.");
        TurfBog none = new TurfBog();
        Check.due("without hearths", none.pairs(-1), 0);
        Check.refuses("pairs(0) without hearths", NO_SUCH, () -> none.pairs(0));
        TurfBog one = Check.bog(HEARTH + "right 0 1 2");
        Check.due("of one", one.pairs(-1), 0);
        Check.due("with nobody", one.pairs(0), -1);
        Check.refuses("pairs(1) of one", NO_SUCH, () -> one.pairs(1));
        TurfBog apart = Check.bog(HEARTH.repeat(2) + "right 0 1 2;right 1 3");
        Check.due("that share none", apart.pairs(-1), 0);
        Check.due("are no pair, none being the least", apart.pairs(0), -1);
        Check.says("(HEARTH by HEARTH, none being the least, then the others); none.");
        TurfBog six = Check.bog(HEARTH.repeat(6) + "right 0 7;right 1 7;right 2 7;right 3 7;right 4 7;right 5 7");
        Check.due("three pairs", six.pairs(-1), 3);
        int[] due = {1, 0, 3, 2, 5, 4};
        for (int hearth = 0; hearth < due.length; hearth++) {
            Check.due("with " + hearth, six.pairs(hearth), due[hearth]);
        }
        TurfBog five = Check.bog(HEARTH.repeat(5) + "right 0 24;right 1 24;right 2 24;right 3 24;right 4 24");
        int[] odd = {-1, 2, 1, 4, 3};
        for (int hearth = 0; hearth < odd.length; hearth++) {
            Check.due("of five with " + hearth, five.pairs(hearth), odd[hearth]);
        }
        for (int hearth : new int[] {6, -2, Integer.MIN_VALUE, Integer.MAX_VALUE}) {
            Check.refuses("pairs(" + hearth + ")", NO_SUCH, () -> six.pairs(hearth));
        }
    }

    private static void rests() {
        Check.says("RESTS, as bits. IllegalArgumentException: both are one.");
        TurfBog x = Check.bog("hearth hands 4 need 0;hearth hands 4 need 0;hearth hands 5 need 0;hearth hands 5 need 0;sun 9");
        Check.due("all four are alike to both", x.rests(0, 1), 15);
        Check.due("both would rather cut", x.rests(2, 3), 7);
        Check.refuses("both are one", BAD, () -> x.rests(3, 3));
        Check.refuses("no such hearth, both being one", NO_SUCH, () -> x.rests(4, 4));
        Check.refuses("no such other one", NO_SUCH, () -> x.rests(0, 4));
        Check.refuses("no such first one", NO_SUCH, () -> x.rests(-1, 0));
    }

    private static void restsBounds() {
        Check.says("who cuts alone has HANDS, the other one 0 less LACKS by 10, rounded down; both waiting each has SUN less 5");
        TurfBog x = Check.bog("hearth hands 5 need 9;hearth hands 5 need 10;hearth hands 5 need 9;hearth hands 6 need 0;"
                + "hearth hands 5 need 19;hearth hands 5 need 20;sun 0");
        Check.due("lacks of 9 are nothing", x.rests(0, 2), Check.bits(0, 1, 2));
        Check.due("lacks of 10 are 1", x.rests(0, 1), Check.bits(0, 2));
        // Beside one of 6 hands each of 5 has 1 less by cutting, too.
        Check.due("lacks of 10 beside 6 hands", x.rests(1, 3), Check.bits(0, 2));
        Check.due("lacks of 19 beside 6 hands", x.rests(4, 3), Check.bits(0, 2));
        Check.due("lacks of 20 beside 6 hands", x.rests(5, 3), Check.bits(0));
        TurfBog more = Check.bog("hearth hands 5 need 9 store 99;hearth hands 5 need 0 store 999;sun 0");
        Check.due("lacks are 0 at least", more.rests(0, 1), Check.bits(0, 1, 2));
    }

    private static void odds() {
        Check.says("ODDS of N DAYS (0 to 5) and K (0 to 5): that there is RAIN on K of them at least, by SHOWER, "
                + "in ten thousandths, rounded down.");
        TurfBog x = Check.bog("shower 30");
        Check.due("none of none", x.odds(0, 0), 10000);
        Check.due("one of none", x.odds(0, 1), 0);
        Check.due("five of none", x.odds(0, 5), 0);
        Check.due("none of five", x.odds(5, 0), 10000);
        Check.due("five of five", x.odds(5, 5), 24);
        Check.due("five of four", x.odds(4, 5), 0);
        Check.due("two of five", x.odds(5, 2), 4717);
        Check.due("rounded down to 0", Check.bog("shower 1").odds(3, 3), 0);
        Check.due("one ten thousandth", Check.bog("shower 1").odds(2, 2), 1);
        int[] all = {0, 9900, 9999, 9999, 9999, 9999};
        for (int n = 0; n <= 5; n++) {
            Check.due("rounded down from all but all of " + n, Check.bog("shower 99").odds(n, 1), all[n]);
        }
        TurfBog never = new TurfBog();
        TurfBog always = Check.bog("shower 100");
        for (int n = 0; n <= 5; n++) {
            for (int k = 0; k <= 5; k++) {
                Check.due("never, " + k + " of " + n, never.odds(n, k), k == 0 ? 10000 : 0);
                Check.due("always, " + k + " of " + n, always.odds(n, k), k <= n ? 10000 : 0);
            }
        }
        int[] half = {0, 5000, 7500, 8750, 9375, 9687};
        for (int n = 0; n <= 5; n++) {
            Check.due("one of " + n + " by halves", Check.bog("shower 50").odds(n, 1), half[n]);
        }
        Check.says("ODDS. IllegalArgumentException: N or K are none.");
        for (int n : new int[] {-1, 6, Integer.MIN_VALUE, Integer.MAX_VALUE}) {
            Check.refuses("odds(" + n + ", 0)", BAD, () -> x.odds(n, 0));
            Check.refuses("odds(5, " + n + ")", BAD, () -> x.odds(5, n));
        }
    }
}
