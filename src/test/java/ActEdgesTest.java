import java.util.NoSuchElementException;

/** Promises 7 to 17, days and acts: each sentence of the document that names a boundary case. */
public final class ActEdgesTest {
    private static final Class<IllegalArgumentException> BAD = IllegalArgumentException.class;
    private static final Class<IllegalStateException> CANNOT = IllegalStateException.class;
    private static final Class<NoSuchElementException> NO_WHAT = NoSuchElementException.class;

    public static void main(String[] args) {
        otherWhats();
        beside();
        drained();
        lets();
        open();
        lacksAndShare();
        whereItWouldCut();
        ditch();
        way();
        ripe();
        clear();
        owners();
        howManyDays();
        draws();
        seedGoesRound();
        showers();
        waterInTheEnd();
        dryInTheEnd();
        dryAheadOfCuts();
        belowItsNeed();
        byAllAsItIsThen();
        cutsMix();
        lastDay();
        cutByHand();
        foot();
        cartDry();
        cartWay();
        cartStore();
        digAndBlock();
        rights();
        trades();
        skies();
        Check.finish();
    }

    // ---- what is told of cells and hearths ----

    private static void otherWhats() {
        TurfBog x = Check.bog("hearth hands 1 need 1");
        Check.says("16 OWNERS, as bits. NoSuchElementException: another what.");
        for (int what : new int[] {-1, 17, Integer.MIN_VALUE, Integer.MAX_VALUE}) {
            Check.refuses("cell(24, " + what + ")", NO_WHAT, () -> x.cell(24, what));
        }
        Check.due("the first", x.cell(24, 0), 0);
        Check.due("the last", x.cell(24, 16), 0);
        Check.says("6 SHARE. NoSuchElementException: another what.");
        for (int what : new int[] {-1, 7, Integer.MIN_VALUE, Integer.MAX_VALUE}) {
            Check.refuses("hearth(0, " + what + ")", NO_WHAT, () -> x.hearth(0, what));
        }
        Check.due("the first", x.hearth(0, 0), 1);
        Check.due("the last", x.hearth(0, 6), 0);
    }

    private static void beside() {
        Check.says("five rows of five, X a CELL modulo 5, Y a CELL by 5, rounded down; "
                + "BESIDE: left (0), right (1), up (2: the row before), down (3).");
        int[][] due = {{1, 5}, {0, 2, 6}, {3, 9}, {0, 6, 10}, {4, 8, 14}, {5, 11, 15}, {15, 21}, {20, 22, 16}, {19, 23}};
        int[] of = {0, 1, 4, 5, 9, 10, 20, 21, 24};
        for (int i = 0; i < of.length; i++) {
            Check.due("beside " + of[i], besides(of[i]), Check.bits(due[i]));
        }
        Check.due("beside 12", besides(12), Check.bits(7, 11, 13, 17));
    }

    /** Cells a step of peat from one, all cells being peat. */
    private static int besides(int cell) {
        TurfBog x = Check.bog("peat 0" + " 1".repeat(25));
        int found = 0;
        for (int other = 0; other < 25; other++) {
            found |= x.far(cell, other) == 1 ? 1 << other : 0;
        }
        return found;
    }

    private static void drained() {
        Check.says("DRAINED: a CELL with a DRAIN from which one comes from DRAIN to DRAIN BESIDE one another to that of "
                + "THE OUTFALL (which is DRAINED itself, if it has one).");
        TurfBog x = Check.bog("drain 23 22 21 20 15 10 5 0");
        Check.due("none without that of the outfall", x.drained(), 0);
        Check.due("nor the outfall itself", x.cell(24, 6), 0);
        x.dig(24);
        Check.due("all of the way", x.drained(), Check.bits(24, 23, 22, 21, 20, 15, 10, 5, 0));
        x.block(10);
        Check.due("up to a gap", x.drained(), Check.bits(24, 23, 22, 21, 20, 15));
        Check.due("not behind it", x.cell(5, 6), 0);
        Check.due("the outfall alone", Check.bog("drain 24").drained(), Check.bits(24));
        Check.due("not round the edge", Check.bog("drain 24 19 20 15 14").drained(), Check.bits(24, 19, 14));
        Check.due("not aslant", Check.bog("drain 24 18 12 6 0").drained(), Check.bits(24));
        Check.due("a way that winds", Check.bog("drain 0 1 2 3 4 9 14 13", "drain 12 11 10 15 20 21 22 23", "drain 24").cell(0, 6), 1);
    }

    private static void lets() {
        Check.says("LETS: a CELL that is DRAINED, or BESIDE a DRAINED one.");
        TurfBog x = Check.bog("drain 24 19 14 9 4 7");
        int found = 0;
        for (int cell = 0; cell < 25; cell++) {
            found |= x.cell(cell, 7) << cell;
        }
        Check.due("those in the last column and beside it", found, Check.bits(4, 9, 14, 19, 24, 3, 8, 13, 18, 23));
        Check.due("none without one", new TurfBog().cell(24, 7), 0);
    }

    private static void open() {
        Check.says("OPEN: a CELL of DEPTH above 0 and WATER 3 at most, where there are fewer than 90 TURVES.");
        TurfBog x = Check.bog("peat 0 0 1 9 9 1 1 1;water 0 0 3 4 0 0 0 3;turves 4 89;turves 5 90;turves 6 99");
        int[] due = {0, 1, 0, 1, 1, 0, 0};
        for (int cell = 0; cell < due.length; cell++) {
            Check.due("open " + cell, x.cell(cell, 8), due[cell]);
        }
        Check.due("all of them", x.open(), Check.bits(1, 3, 4));
    }

    private static void lacksAndShare() {
        Check.says("LACKS of a HEARTH: NEED less STORE (0 at least).");
        TurfBog x = Check.bog("hearth hands 1 need 9 store 8;hearth hands 1 need 9 store 9;hearth hands 1 need 9 store 10;"
                + "hearth hands 1 need 99");
        int[] lacks = {1, 0, 0, 99};
        for (int hearth = 0; hearth < lacks.length; hearth++) {
            Check.due("lacks of " + hearth, x.hearth(hearth, 4), lacks[hearth]);
        }
        Check.says("SHARE of a HEARTH of STORES of all, in hundredths, rounded down (0 without).");
        Check.due("8 of 27", x.hearth(0, 6), 29);
        Check.due("none of 27", x.hearth(3, 6), 0);
        Check.due("without stores", Check.bog("hearth hands 1 need 9").hearth(0, 6), 0);
        Check.due("all", Check.bog("hearth hands 1 need 9 store 1;hearth hands 1 need 1").hearth(0, 6), 100);
        TurfBog most = Check.bog("hearth hands 1 need 9 store 999;".repeat(5) + "hearth hands 1 need 1 store 998");
        Check.due("999 of 5993", most.hearth(0, 6), 16);
        Check.due("1 of 1000", Check.bog("hearth hands 1 need 9 store 999;hearth hands 1 need 1 store 1").hearth(1, 6), 0);
    }

    private static void whereItWouldCut() {
        Check.says("5 the CELL where it would CUT now, if it cut (the first OPEN one of its RIGHTS; NONE)");
        TurfBog x = Check.bog("hearth hands 1 need 0 store 9;hearth hands 1 need 1;hearth hands 1 need 1;right 0 24 0;"
                + "right 1 24 23 22;peat 22 1 1 1;water 22 4 3 0");
        Check.due("also if it needs none", x.hearth(0, 5), 24);
        Check.due("the first that is open", x.hearth(1, 5), 23);
        Check.due("without rights", x.hearth(2, 5), -1);
        x.right(0, 24, false);
        Check.due("with none open", x.hearth(0, 5), -1);
    }

    private static void ditch() {
        Check.says("DITCH of a CELL: the fewest CELLS to be given a DRAIN so that it is DRAINED.");
        TurfBog x = new TurfBog();
        Check.due("of the outfall without a drain", x.cell(24, 11), 1);
        Check.due("of the farthest", x.cell(0, 11), 9);
        x.dig(24);
        Check.due("of the outfall with one", x.cell(24, 11), 0);
        Check.due("beside it", x.cell(23, 11), 1);
        Check.due("not round the edge", x.cell(20, 11), 4);
        TurfBog far = Check.bog("drain 0 1 2 3 4 9 14 19");
        Check.due("of one that all but has one", far.cell(0, 11), 1);
        TurfBog round = Check.bog("drain 0 5 10 15 20 21 22 23");
        Check.due("round about is for nothing", round.cell(1, 11), 2);
        far.dig(24);
        Check.due("of a drained one", far.cell(0, 11), 0);
    }

    private static void way() {
        Check.says("the least SINKS together of all CELLS on it, the first one and the last one, too "
                + "(of a CELL of THE ROAD that one alone)");
        TurfBog x = Check.bog("water 0 9 0 9 9 9 9 0 9 9 9;water 20 9 9 9 9 9");
        Check.says("CELLS 0 to 4 are THE ROAD");
        Check.due("way of the road", x.cell(0, 12), 9);
        Check.due("steps of the road", x.cell(0, 13), 0);
        Check.due("the last of the road", x.cell(4, 12), 9);
        Check.due("the first below it", x.cell(5, 12), 9);
        Check.due("round by none", x.cell(5, 13), 2);
        Check.due("the first and the last count", x.cell(9, 12), 18);
        Check.due("in one step", x.cell(9, 13), 1);
        Check.says("STEPS: the fewest steps on any such way of the least SINKS.");
        TurfBog dry = Check.bog("water 0" + " 0".repeat(25));
        Check.due("way of none", dry.cell(24, 12), 0);
        Check.due("steps of it", dry.cell(24, 13), 4);
        // The one way of no sinks winds through all rows: 20 to 24, 19, 14 to 10, 5, 0.
        TurfBog winds = Check.bog("water 0 0 9 9 9 9 0 9 9 9 9 0 0 0 0 0 9 9 9 9 0 0 0 0 0 0");
        Check.due("a long way of none", winds.cell(20, 12), 0);
        Check.due("its steps", winds.cell(20, 13), 12);
        Check.law(winds, "sink 20;".repeat(12).substring(0, 95));
        Check.due("the greatest sinks", winds.cell(4, 12), 249);
        Check.due("straight on then", winds.cell(20, 13), 4);
        Check.due("by all that sinks", winds.cell(20, 12), 5 * 240 + 9);
    }

    private static void ripe() {
        Check.says("RIPE of a CELL: the first N (0 to 60) IN which there are TURVES of DRY 60 at least; none.");
        TurfBog x = Check.bog("turves 0 1 dry 60;turves 1 1 dry 59;turves 2 1;turves 3 1 dry 99;sun 1;peat 5 1;water 5 0;"
                + "hearth hands 9 need 1;right 0 5");
        int[] due = {0, 1, 60, 0, -1};
        for (int cell = 0; cell < due.length; cell++) {
            Check.due("ripe " + cell, x.cell(cell, 14), due[cell]);
        }
        Check.due("turves cut tomorrow are not dry in 60 days", x.cell(5, 14), -1);
        x.sky(9, false);
        Check.due("but by more sun", x.cell(5, 14), 8);
        x.sky(9, true);
        Check.due("never in rain", x.cell(1, 14), -1);
        Check.due("but now", x.cell(0, 14), 0);
        TurfBog late = Check.bog("turves 19 1;drain 24;water 19 9;sun 0");
        Check.law(late, "dry 1 if water < 9");
        Check.due("on the last day", late.cell(19, 14), 60);
        Check.law(late, "dry 1 if water < 8");
        Check.due("59 then", late.ahead(19, 60, 3), 59);
        Check.due("a day too late", late.cell(19, 14), -1);
        Check.due("nothing stays", late.cell(19, 1), 9);
    }

    private static void clear() {
        Check.says("CLEAR of a CELL: the first N (0 to 60) IN which it is OPEN; none.");
        TurfBog x = Check.bog("drain 24;peat 17 1 1 1;peat 23 1 1;water 17 4 3 9;water 23 4 9");
        Check.due("never without a drain", x.cell(17, 15), -1);
        Check.due("now", x.cell(18, 15), 0);
        Check.due("beside a drained one", x.cell(19, 15), 6);
        Check.due("on the next day", x.cell(23, 15), 1);
        Check.due("a drained one", x.cell(24, 15), 3);
        Check.due("never without peat", x.cell(20, 15), -1);
        x.sky(0, true);
        Check.due("never in rain", x.cell(19, 15), -1);
        Check.due("but drained", x.cell(24, 15), 6);
        Check.put(x, "turves 18 90");
        x.bog();
        Check.due("never with 90 turves", x.cell(18, 15), -1);
        Check.due("nothing stays", x.cell(24, 1), 9);
    }

    private static void owners() {
        Check.says("OWNERS of a CELL: HEARTHS that have a RIGHT there, as bits.");
        TurfBog x = Check.bog("hearth hands 1 need 1;".repeat(6) + "right 0 24 0;right 5 24");
        Check.due("two", x.cell(24, 16), Check.bits(0, 5));
        Check.due("one", x.cell(0, 16), 1);
        Check.due("none", x.cell(1, 16), 0);
    }

    // ---- days ----

    private static void howManyDays() {
        Check.says("So many DAYS more (1 to 60): how often a HEARTH CUT on these. IllegalArgumentException: they are none.");
        TurfBog x = new TurfBog();
        for (int n : new int[] {0, -1, 61, Integer.MIN_VALUE, Integer.MAX_VALUE}) {
            Check.refuses("days(" + n + ")", BAD, () -> x.days(n));
        }
        Check.due("no day went", x.count(6), 0);
        Check.due("none without hearths", x.days(1), 0);
        Check.due("one day", x.count(6), 1);
        x.days(60);
        Check.due("sixty more", x.count(6), 61);
        TurfBog y = Check.bog("peat 0 9 9 9 9 9 9 9 9;water 0 0 0 0 0 0 0 0 0;hearth hands 1 need 1;right 0 0 1 2 3 4 5 6 7");
        Check.due("one cut each day", y.days(60), 60);
        Check.due("till there is none", y.days(60), 12);
        Check.due("then no more", y.days(60), 0);
        TurfBog six = Check.bog("peat 0 9;water 0 0;" + "hearth hands 1 need 1;".repeat(6) + "right 0 0;right 1 0;right 2 0;right 3 0",
                "right 4 0;right 5 0");
        Check.due("six on one day", six.days(1), 6);
        Check.due("the last is the latest", six.log(0, 1), 5);
    }

    private static void draws() {
        Check.says("DRAW: SEED is 1103515245 times SEED and 12345, as an int that goes round; bits 16 to 30 (SEED 1 at first).");
        // Draws from 1 on: 16838 5758, 10113 17515, 31051 5627, 23010 7419, 16212 4086.
        int[] suns = {8, 3, 1, 0, 2};
        int[] rains = {58, 15, 27, 19, 86};
        for (int i = 0; i < suns.length; i++) {
            TurfBog x = Check.bog("shower " + rains[i]);
            x.days(i + 1);
            Check.due("sun of day " + (i + 1), x.count(3), suns[i]);
            Check.due("no rain: not below", x.count(5), 0);
            TurfBog y = Check.bog("shower " + (rains[i] + 1));
            y.days(i + 1);
            Check.due("rain: below", y.count(5), 1);
        }
    }

    private static void seedGoesRound() {
        Check.says("as an int that goes round; bits 16 to 30");
        int[] seeds = {0, -1, 2, 3, Integer.MAX_VALUE, Integer.MIN_VALUE, 1103515245, -12345, 65536, 1 << 30};
        for (int seed : seeds) {
            TurfBog x = Check.bog("shower 50");
            x.seed(seed);
            x.days(1);
            long first = 1103515245L * seed + 12345 & 0xffffffffL;
            long second = 1103515245L * first + 12345 & 0xffffffffL;
            Check.due("sun from " + seed, x.count(3), first / 65536 % 32768 % 10);
            Check.due("rain from " + seed, x.count(5), second / 65536 % 32768 % 100 < 50 ? 1 : 0);
            Check.due("seed from " + seed, x.seed(1), (int) second);
        }
    }

    private static void showers() {
        Check.says("SUN is DRAW modulo 10; there is RAIN, if DRAW modulo 100 is below SHOWER, else not");
        TurfBog never = Check.bog("rain");
        TurfBog always = Check.bog("shower 100");
        for (int i = 0; i < 100; i++) {
            never.days(1);
            always.days(1);
            Check.due("never by 0", never.count(5), 0);
            Check.due("always by 100", always.count(5), 1);
        }
    }

    private static void waterInTheEnd() {
        Check.says("WATER is 1 more, if there is RAIN, 1 less, if it LETS, 1 less again, if it is DRAINED (0 to 9 in the end)");
        int[][] wet = {{0, 0, 0, 1}, {1, 0, 1, 2}, {2, 1, 2, 3}, {8, 7, 8, 9}, {9, 8, 9, 9}};
        int[][] dry = {{0, 0, 0, 0}, {1, 0, 0, 1}, {2, 0, 1, 2}, {3, 1, 2, 3}, {9, 7, 8, 9}};
        for (int[] row : wet) {
            dayOfWater("100", row);
        }
        for (int[] row : dry) {
            dayOfWater("0", row);
        }
    }

    /** A row: the water as it is; then that of a drained one, one that lets, another one. */
    private static void dayOfWater(String shower, int[] row) {
        TurfBog x = Check.bog("drain 24;shower " + shower + ";water 0" + (" " + row[0]).repeat(25));
        x.days(1);
        Check.due("shower " + shower + ": " + row[0] + ", drained", x.cell(24, 1), row[1]);
        Check.due("shower " + shower + ": " + row[0] + ", left of it", x.cell(23, 1), row[2]);
        Check.due("shower " + shower + ": " + row[0] + ", above it", x.cell(19, 1), row[2]);
        Check.due("shower " + shower + ": " + row[0] + ", aslant", x.cell(18, 1), row[3]);
        Check.due("shower " + shower + ": " + row[0] + ", behind the edge", x.cell(20, 1), row[3]);
    }

    private static void dryInTheEnd() {
        Check.says("each CELL with TURVES, by numbers, by all as it is ahead of (c): DRY is GAIN more (0 to 99)");
        TurfBog x = Check.bog("turves 0 1 dry 90;turves 1 1 dry 91;turves 2 1 dry 92;turves 3 1 dry 99");
        x.days(1);
        int[] sunny = {98, 99, 99, 99, 0};
        for (int cell = 0; cell < sunny.length; cell++) {
            Check.due("dry of " + cell, x.cell(cell, 4), sunny[cell]);
        }
        TurfBog y = Check.bog("turves 0 1 dry 4;turves 1 1 dry 3;turves 2 1 dry 2;turves 3 1;shower 100");
        y.days(1);
        int[] rainy = {1, 0, 0, 0, 0};
        for (int cell = 0; cell < rainy.length; cell++) {
            Check.due("dry in rain of " + cell, y.cell(cell, 4), rainy[cell]);
        }
        Check.law(y, "dry 20");
        y.days(5);
        Check.due("none where none lie", y.cell(4, 4), 0);
    }

    private static void dryAheadOfCuts() {
        Check.says("by all as it is ahead of (c)");
        TurfBog x = Check.bog("turves 19 10 dry 20;water 19 4;drain 24;peat 19 1;hearth hands 5 need 1;right 0 19");
        // Sun is 8 by the first draw; water is 3 by then, and the turves are 10 still.
        Check.law(x, "dry 1 if water < 4;dry 2 if turves < 11;dry 4 if depth > 0;dry 8 if sun > 7;dry 16 if sun < 8");
        Check.due("cut on that day, for its water is 3 then", x.days(1), 1);
        Check.due("dry ahead of the cut", x.cell(19, 4), (20 + 8 + 15) * 10 / 15);
    }

    private static void belowItsNeed() {
        Check.says("each HEARTH, by numbers, whose STORE is below its NEED");
        String bog = "peat 0 9;water 0 0;right 0 0";
        Check.due("below", Check.bog("hearth hands 1 need 5 store 4;" + bog).days(1), 1);
        Check.due("alike", Check.bog("hearth hands 1 need 5 store 5;" + bog).days(1), 0);
        Check.due("above", Check.bog("hearth hands 1 need 5 store 6;" + bog).days(1), 0);
        Check.due("of none", Check.bog("hearth hands 1 need 0;" + bog).days(1), 0);
        Check.due("of all", Check.bog("hearth hands 1 need 99;" + bog).days(1), 1);
        Check.says("of its RIGHTS the first OPEN CELL (by all as it is then), if there is one: it CUTS there.");
        TurfBog x = Check.bog("hearth hands 1 need 1;hearth hands 1 need 1;peat 20 1 1 1;water 20 4 3 0;right 0 22 21 20");
        Check.due("one, for the other one has no right", x.days(1), 1);
        Check.due("in the first that is open", x.cell(21, 3), 1);
        Check.due("the next one", x.days(1), 1);
        Check.due("in the next", x.cell(22, 3), 1);
        Check.due("none is left", x.days(1), 0);
    }

    private static void byAllAsItIsThen() {
        Check.says("(by all as it is then)");
        String two = "hearth hands 9 need 1;hearth hands 2 need 1;right 0 6;right 1 6 7;";
        TurfBog depth = Check.bog(two + "peat 6 1 1;water 6 0 0");
        Check.due("both cut", depth.days(1), 2);
        Check.due("for the other one there is no peat left", depth.cell(7, 3), 2);
        TurfBog full = Check.bog(two + "peat 6 9 9;water 6 0 0;turves 6 81");
        Check.due("both cut", full.days(1), 2);
        Check.due("90 lie there by then", full.cell(6, 3), 90);
        Check.due("so the other one cuts in the next", full.cell(7, 3), 2);
        TurfBog room = Check.bog(two + "peat 6 9 9;water 6 0 0;turves 6 80");
        Check.due("both cut", room.days(1), 2);
        Check.due("89 leave room", room.cell(6, 3), 91);
        TurfBog none = Check.bog(two + "peat 6 1;water 6 0");
        Check.due("one cuts, and the other one cannot", none.days(1), 1);
        TurfBog late = Check.bog(two + "peat 7 5;water 7 5;drain 24 19 14 9 8");
        Check.due("water 4 by then", late.days(1), 0);
        Check.due("water 3 by then", late.days(1), 1);
    }

    private static void cutsMix() {
        Check.says("It CUTS: DRY is then DRY times TURVES by TURVES and HANDS, rounded down, STAGE 0, TURVES HANDS more, DEPTH 1 less.");
        TurfBog x = Check.bog("peat 0 9 1 1 1;water 0 0 0 0 0;turves 1 1 dry 99;turves 2 89 dry 99;turves 3 10 dry 50;"
                + "hearth hands 9 need 0;right 0 0 1 2 3");
        x.foot(3);
        x.foot(3);
        Check.due("none lay there", x.cut(0, 0), 9);
        Check.due("dry 0", x.cell(0, 4), 0);
        Check.due("depth", x.cell(0, 0), 8);
        Check.due("one lay there", x.cut(0, 1), 10);
        Check.due("99 by 10", x.cell(1, 4), 9);
        Check.due("89 lay there", x.cut(0, 2), 98);
        Check.due("8811 by 98", x.cell(2, 4), 89);
        Check.due("ricked ones", x.cut(0, 3), 19);
        Check.due("500 by 19", x.cell(3, 4), 26);
        Check.due("are spread", x.cell(3, 5), 0);
        Check.due("depth 0", x.cell(3, 0), 0);
    }

    private static void lastDay() {
        Check.says("DAY is 1 more (9999 at most).");
        TurfBog x = Check.bog("day 999;peat 0 9;water 0 0;hearth hands 1 need 0;right 0 0");
        for (int i = 0; i < 149; i++) {
            x.days(60);
        }
        x.days(59);
        Check.due("9998", x.count(6), 9998);
        x.days(1);
        Check.due("9999", x.count(6), 9999);
        x.days(1);
        Check.due("still", x.count(6), 9999);
        x.days(60);
        Check.due("and on", x.count(6), 9999);
        x.cut(0, 0);
        Check.due("in the log, too", x.log(0, 0), 9999);
    }

    // ---- acts ----

    private static void cutByHand() {
        Check.says("A HEARTH CUTS: how many TURVES lie there then. "
                + "IllegalStateException: the CELL is not OPEN, or none of its RIGHTS.");
        TurfBog x = Check.bog("peat 20 2 1 1 1 0;water 20 3 4 0 0 0;turves 22 89;turves 23 90;hearth hands 9 need 0;"
                + "hearth hands 1 need 9;right 0 20 21 22 23 24");
        Check.due("water 3", x.cut(0, 20), 9);
        Check.refuses("water 4", CANNOT, () -> x.cut(0, 21));
        Check.due("89 turves", x.cut(0, 22), 98);
        Check.refuses("90 turves", CANNOT, () -> x.cut(0, 23));
        Check.refuses("no peat", CANNOT, () -> x.cut(0, 24));
        Check.refuses("no right", CANNOT, () -> x.cut(1, 20));
        Check.due("the last peat", x.cut(0, 20), 18);
        Check.refuses("no peat then", CANNOT, () -> x.cut(0, 20));
    }

    private static void foot() {
        Check.says("TURVES are footed or ricked (STAGE 1 more: with DRY 30 at least to 1, 50 at least to 2)");
        TurfBog x = Check.bog("turves 0 1 dry 29;turves 1 1 dry 30;turves 2 1 dry 49;turves 3 1 dry 50;turves 24 99 dry 99");
        Check.refuses("29 to 1", CANNOT, () -> x.foot(0));
        Check.due("30 to 1", x.foot(1), 1);
        Check.due("49 to 1", x.foot(2), 1);
        Check.refuses("49 to 2", CANNOT, () -> x.foot(2));
        Check.due("50 to 1", x.foot(3), 1);
        Check.due("50 to 2", x.foot(3), 2);
        Check.says("IllegalStateException: there are none, they are ricked, or DRY is too little.");
        Check.refuses("ricked", CANNOT, () -> x.foot(3));
        Check.refuses("none", CANNOT, () -> x.foot(4));
        x.foot(24);
        x.foot(24);
        Check.refuses("ricked, and dry as can be", CANNOT, () -> x.foot(24));
        Check.due("stage", x.cell(24, 5), 2);
    }

    private static void cartDry() {
        Check.says("(all of a CELL, DRY 60 at least, by a HEARTH that has a RIGHT there, if WAY is at most 4 times its HANDS: "
                + "STORE so many more, 999 at most; none lie there then)");
        TurfBog x = Check.bog("turves 0 5 dry 59;turves 1 5 dry 60;turves 2 5 dry 99;hearth hands 9 need 0;right 0 0 1 3");
        Check.refuses("59", CANNOT, () -> x.cart(0, 0));
        Check.due("60", x.cart(0, 1), 5);
        Check.due("none lie there", x.cell(1, 3), 0);
        Check.due("so dry is 0", x.cell(1, 4), 0);
        Check.refuses("none are there", CANNOT, () -> x.cart(0, 1));
        Check.refuses("no right", CANNOT, () -> x.cart(0, 2));
        Check.refuses("none were there", CANNOT, () -> x.cart(0, 3));
        x.right(0, 2, true);
        x.foot(2);
        x.foot(2);
        Check.due("ricked ones", x.cart(0, 2), 10);
        Check.due("stage of none", x.cell(2, 5), 0);
    }

    private static void cartWay() {
        Check.says("IllegalStateException: there are none, DRY is below 60, it has no RIGHT there, or WAY is above 4 times its HANDS.");
        TurfBog x = Check.bog("water 0 4 5 9 9 9 0 0 9 9 9;turves 5 3 dry 60;turves 6 3 dry 60;turves 0 1 dry 60;"
                + "hearth hands 1 need 0;hearth hands 2 need 0;right 0 0 5 6;right 1 5 6");
        Check.due("way 4", x.cell(5, 12), 4);
        Check.due("4 by 1", x.cart(0, 5), 3);
        Check.due("of the road", x.cart(0, 0), 4);
        Check.law(x, "sink 1 if cell > 5 and cell < 7");
        Check.due("way 5", x.cell(6, 12), 5);
        Check.refuses("5 by 1", CANNOT, () -> x.cart(0, 6));
        Check.due("5 by 2", x.cart(1, 6), 3);
        TurfBog y = Check.bog("water 0 9 9 9 9 9 9;turves 5 3 dry 60;hearth hands 9 need 0;right 0 5");
        Check.law(y, "sink 18 if cell > 4 and cell < 6");
        Check.due("way 36", y.cell(5, 12), 36);
        Check.law(y, "sink 19 if cell > 4 and cell < 6");
        Check.refuses("37 by 9", CANNOT, () -> y.cart(0, 5));
        Check.law(y, "sink 18 if cell > 4 and cell < 6");
        Check.due("36 by 9", y.cart(0, 5), 3);
    }

    private static void cartStore() {
        Check.says("STORE so many more, 999 at most; none lie there then");
        TurfBog x = Check.bog("turves 0 9 dry 60;turves 1 10 dry 60;turves 2 1 dry 60;hearth hands 9 need 0 store 989;right 0 0 1 2");
        Check.due("998", x.cart(0, 0), 998);
        Check.due("999 at most", x.cart(0, 1), 999);
        Check.due("none lie there, though", x.cell(1, 3), 0);
        Check.due("ten are told of", x.log(0, 4), 10);
        Check.due("no more by one more", x.cart(0, 2), 999);
        Check.due("rows", x.count(11), 3);
    }

    private static void digAndBlock() {
        TurfBog x = new TurfBog();
        Check.says("A DRAIN is dug: whether there was none.");
        Check.due("there was none", x.dig(0), true);
        Check.due("there was one", x.dig(0), false);
        Check.due("one there is", x.count(10), 1);
        Check.due("in the last cell", x.dig(24), true);
        Check.says("A DRAIN is blocked (there is none then): whether there was one.");
        Check.due("there was none", x.block(23), false);
        Check.due("there was one", x.block(24), true);
        Check.due("there is none then", x.cell(24, 2), 0);
        Check.due("the other one stays", x.cell(0, 2), 1);
        for (int cell = 0; cell < 25; cell++) {
            x.dig(cell);
        }
        Check.due("all have one", x.count(10), 25);
    }

    private static void rights() {
        Check.says("A RIGHT is given, or taken: whether that changed.");
        TurfBog x = Check.bog("hearth hands 1 need 1;".repeat(5) + "hearth hands 1 need 1");
        Check.due("given", x.right(5, 24, true), true);
        Check.due("given again", x.right(5, 24, true), false);
        Check.due("taken of one that had none", x.right(5, 0, false), false);
        Check.due("of the others none", x.cell(24, 16), Check.bits(5));
        Check.due("taken", x.right(5, 24, false), true);
        Check.due("taken again", x.right(5, 24, false), false);
        for (int cell = 0; cell < 25; cell++) {
            x.right(0, cell, true);
        }
        Check.due("all", x.hearth(0, 3), (1 << 25) - 1);
    }

    private static void trades() {
        Check.says("So many of a STORE are traded: STORE of the other one then (999 at most).");
        TurfBog x = Check.bog("hearth hands 1 need 1 store 999;hearth hands 1 need 1;hearth hands 1 need 1 store 998");
        Check.due("one", x.trade(0, 1, 1), 1);
        Check.due("it has one less", x.hearth(0, 2), 998);
        Check.due("all", x.trade(0, 1, 998), 999);
        Check.due("it has none", x.hearth(0, 2), 0);
        Check.due("999 at a time, 999 at most", x.trade(1, 2, 999), 999);
        Check.due("it has none", x.hearth(1, 2), 0);
        Check.due("998 and 1 were there", x.count(9), 999);
        Check.says("IllegalArgumentException: both are one, or n is none (1 to 999); IllegalStateException: its STORE is less.");
        for (int n : new int[] {0, -1, 1000, Integer.MIN_VALUE, Integer.MAX_VALUE}) {
            Check.refuses("trade of " + n, BAD, () -> x.trade(2, 0, n));
        }
        Check.refuses("both are one", BAD, () -> x.trade(2, 2, 1));
        Check.refuses("both are one, with less", BAD, () -> x.trade(0, 0, 1));
        Check.refuses("none of none", CANNOT, () -> x.trade(0, 1, 1));
        x.trade(2, 0, 5);
        Check.refuses("six of five", CANNOT, () -> x.trade(0, 1, 6));
        Check.due("five of five", x.trade(0, 1, 5), 5);
    }

    private static void skies() {
        Check.says("SUN and RAIN are told: SUN as it was. IllegalArgumentException: SUN is none (0 to 9).");
        TurfBog x = new TurfBog();
        Check.due("as it was", x.sky(0, true), 5);
        Check.due("0", x.sky(9, false), 0);
        Check.due("9", x.sky(9, true), 9);
        for (int sun : new int[] {-1, 10, Integer.MIN_VALUE, Integer.MAX_VALUE}) {
            Check.refuses("sky(" + sun + ", false)", BAD, () -> x.sky(sun, false));
        }
        Check.due("sun stays", x.count(3), 9);
        Check.due("rain stays", x.count(5), 1);
    }
}
