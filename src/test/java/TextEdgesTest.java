/** Promises 1 to 6 and the texts: each sentence of the document that names a boundary case. */
public final class TextEdgesTest {
    private static final Class<IllegalArgumentException> BAD = IllegalArgumentException.class;
    private static final Class<UnsupportedOperationException> FULL = UnsupportedOperationException.class;

    public static void main(String[] args) {
        asItIsAtFirst();
        feeds();
        ends();
        behindTheEnd();
        fullTapes();
        usesUp();
        twelveTexts();
        lines();
        rows();
        tooManyOfARow();
        drains();
        turves();
        hearths();
        sixHearths();
        rights();
        skies();
        digits();
        words();
        blanks();
        lawLines();
        lawNumbers();
        lawSums();
        lawFacts();
        gainAndSinks();
        deep();
        firstWrongByte();
        moreMustCome();
        nothingStays();
        latestFault();
        Check.finish();
    }

    // ---- what the checks are made of ----

    /** The text, a new bog's first, is right. */
    private static TurfBog right(String text) {
        TurfBog x = new TurfBog();
        Check.put(x, text);
        Check.due("'" + text + "' is a text", x.bog(), 1);
        Check.due("fault of '" + text + "'", x.fault(), -1);
        return x;
    }

    /** A text for a bog with one hearth is wrong at its | (which is taken out). */
    private static void wrong(String marked) {
        TurfBog x = Check.bog("hearth hands 1 need 1");
        int at = marked.indexOf('|');
        String text = marked.substring(0, at) + marked.substring(at + 1);
        Check.put(x, text);
        Check.refuses("'" + text + "'", BAD, x::bog);
        Check.due("fault of '" + text + "'", x.fault(), at);
    }

    private static TurfBog rightLaw(String text, int lines) {
        TurfBog x = new TurfBog();
        Check.put(x, text);
        Check.due("'" + text + "' is a law of so many lines", x.law(), lines);
        Check.due("fault of '" + text + "'", x.fault(), -1);
        return x;
    }

    private static void wrongLaw(String marked) {
        TurfBog x = new TurfBog();
        int at = marked.indexOf('|');
        String text = marked.substring(0, at) + marked.substring(at + 1);
        Check.put(x, text);
        Check.refuses("law '" + text + "'", BAD, x::law);
        Check.due("fault of law '" + text + "'", x.fault(), at);
        Check.due("there is no law then", x.count(2), -1);
    }

    private static String many(String what, String between, int n) {
        StringBuilder b = new StringBuilder();
        for (int i = 0; i < n; i++) {
            b.append(i == 0 ? "" : between).append(what);
        }
        return b.toString();
    }

    // ---- a new object and the tape ----

    private static void asItIsAtFirst() {
        TurfBog x = new TurfBog();
        Check.says("A bog without peat.");
        Check.due("depth of all", x.count(7), 0);
        Check.says("DEPTH 0 to 9 (0 at first), WATER 0 to 9 (5 at first), a DRAIN or none (none at first), "
                + "TURVES 0 to 99 that lie there (0 at first), DRY 0 to 99 and STAGE 0 spread, 1 footed, 2 ricked, of these "
                + "(0 at first, and whenever there are none)");
        int[] first = {0, 5, 0, 0, 0, 0};
        for (int cell = 0; cell < 25; cell++) {
            for (int what = 0; what < first.length; what++) {
                Check.due("cell(" + cell + ", " + what + ")", x.cell(cell, what), first[what]);
            }
        }
        Check.says("SUN 0 to 9 (5 at first), SHOWER 0 to 100 (0 at first), RAIN or not (not at first). "
                + "DAY 0 to 9999 (0 at first).");
        int[] sky = {5, 0, 0, 0};
        for (int i = 0; i < sky.length; i++) {
            Check.due("count(" + (3 + i) + ")", x.count(3 + i), sky[i]);
        }
        Check.says("(SEED 1 at first)");
        Check.due("seed", x.seed(4), 1);
        Check.says("STORE 0 to 999 (0 at first), RIGHTS: CELLS, as bits (none at first).");
        TurfBog y = Check.bog("hearth hands 1 need 1");
        Check.due("store", y.hearth(0, 2), 0);
        Check.due("rights", y.hearth(0, 3), 0);
    }

    private static void feeds() {
        TurfBog x = new TurfBog();
        Check.says("NONE, and none come, if it would have more than 400.");
        Check.put(x, "day 7" + " ".repeat(376));
        Check.due("381 and 20", x.feed(-1, -1, -1, -1, -1), -1);
        Check.due("none come", Check.tapeHas(x, 381), true);
        x.end(380);
        Check.due("380 and 20", x.feed(0x20202020, 0x20202020, 0x20202020, 0x20202020, 0x20202020), 400);
        Check.due("400 and 20", x.feed(-1, -1, -1, -1, -1), -1);
        Check.due("none come", Check.tapeHas(x, 400), true);
        Check.due("the 400 that there are make a text", x.bog(), 1);
        Check.due("of which all was read", x.count(6), 7);
        Check.due("there is room again", x.feed(0, 0, 0, 0, 0), 20);
        Check.says("Twenty bytes come behind the TAPE, of each number the highest first");
        x.end(0);
        // "day 5;day 6 ;day 7;;": each number's bytes in their order, numbers in theirs.
        x.feed(0x64617920, 0x353b6461, 0x79203620, 0x3b646179, 0x20373b3b);
        Check.refuses("the last byte is wrong", BAD, x::bog);
        Check.due("at its place", x.fault(), 19);
        x.feed(0x80ff7f00, 0, 0, 0, 0);
        Check.refuses("a byte of the highest bit", BAD, x::bog);
        Check.due("at its place", x.fault(), 0);
    }

    private static void ends() {
        TurfBog x = new TurfBog();
        Check.says("The TAPE has its first n bytes alone: true; false, and nothing happens, if it has fewer, or n is below 0.");
        Check.due("end(0) of none", x.end(0), true);
        Check.due("end(1) of none", x.end(1), false);
        x.feed(0x64617920, 0x31323300, 0, 0, 0);
        Check.due("end(20)", x.end(20), true);
        int[] none = {21, 400, 401, Integer.MAX_VALUE, -1, -20, Integer.MIN_VALUE};
        for (int n : none) {
            Check.due("end(" + n + ")", x.end(n), false);
            Check.due("nothing happens", Check.tapeHas(x, 20), true);
        }
        Check.due("end(5)", x.end(5), true);
        Check.due("what was behind is gone", x.end(6), false);
        Check.due("its first bytes", x.bog(), 1);
        Check.due("alone", x.count(6), 1);
    }

    /** What was cut off by end() is on no text, whatever it was. */
    private static void behindTheEnd() {
        Check.says("The TAPE has its first n bytes alone");
        String[] texts = {"peat 0 1| 2", "peat 0 1|2", "drain 1| 25", "day 1|0", "rain|;", "rain|s", "rain;rain|x", "rain |otter",
            "hearth hands 1 need 1| store 1000", "turves 0 1| dry 100"};
        for (String marked : texts) {
            int n = marked.indexOf('|');
            TurfBog x = new TurfBog();
            Check.put(x, marked.replace("|", ""));
            x.end(n);
            Check.due("'" + marked + "' is a text", x.bog(), 1);
        }
        String[] laws = {"dry 1| if", "dry 1|;", "dry 1 if 1>0|0000", "dry 1 if sun>0|+", "dry 1 if rain| and", "dry 1 if rain|y"};
        for (String marked : laws) {
            TurfBog x = new TurfBog();
            Check.put(x, marked.replace("|", ""));
            x.end(marked.indexOf('|'));
            Check.due("'" + marked + "' is a law", x.law(), 1);
        }
        TurfBog x = new TurfBog();
        Check.put(x, "day 77");
        x.end(3);
        Check.refuses("day without a number", BAD, x::bog);
        Check.due("more must come", x.fault(), 3);
        Check.put(x, "dry 1 if sun>0");
        x.end(12);
        Check.refuses("sun without another one", BAD, x::law);
        Check.due("more must come", x.fault(), 12);
    }

    /** Texts that end with the 400th byte, whatever stands last. */
    private static void fullTapes() {
        Check.says("NONE, and none come, if it would have more than 400.");
        String[] texts = {"rain", "peat 0 1", "drain 1 2", "turves 0 1", "turves 0 1 dry 1", "hearth hands 1 need 1", "day 1", "rain "};
        for (String text : texts) {
            right(" ".repeat(400 - text.length()) + text);
        }
        String[] cut = {"peat", "drain", "hearth hands", "turves 0 1 dry", "day 1;", "day 1;  "};
        for (String text : cut) {
            wrong(" ".repeat(400 - text.length()) + text + "|");
        }
        String[] laws = {"dry 1", "dry 1 if rain", "dry 1 if (rain)", "dry 1 if sun > 1", "dry 1 if sun < x", "dry 1 if 1 < 1 + 1"};
        for (String law : laws) {
            rightLaw(" ".repeat(400 - law.length()) + law, 1);
        }
        String[] cutLaws = {"dry", "dry 1 if", "dry 1 if not", "dry 1 if (", "dry 1 if (rain", "dry 1 if sun", "dry 1 if sun+", "dry 1 if 1<",
            "dry 1;"};
        for (String law : cutLaws) {
            wrongLaw(" ".repeat(400 - law.length()) + law + "|");
        }
        String ones = "dry 1 if 1" + "+1".repeat(193);
        Check.due("194 ones are more than 193", rightLaw(ones + ">193", 1).cell(0, 9), 6);
        Check.due("but not than 194", rightLaw(ones + ">194", 1).cell(0, 9), 5);
        String ors = "dry 1 if rain" + " or rain".repeat(48);
        Check.due("49 that do not hold", rightLaw(ors, 1).cell(0, 9), 5);
    }

    private static void usesUp() {
        Check.says("Uses the TAPE up: a text of THE BOG: how many there are.");
        TurfBog x = new TurfBog();
        Check.put(x, "day 1");
        Check.due("bog()", x.bog(), 1);
        Check.due("the tape is used up", Check.tapeHas(x, 0), true);
        Check.due("an empty one is a text, too", x.bog(), 2);
        Check.put(x, "dey 1");
        Check.refuses("a wrong one", BAD, x::bog);
        Check.due("is used up, too", Check.tapeHas(x, 0), true);
        Check.due("and does not count", x.count(1), 2);
        Check.says("Uses the TAPE up: THE LAW: how many LINES.");
        Check.put(x, "dry 1;dry 1");
        Check.due("law()", x.law(), 2);
        Check.due("the tape is used up", Check.tapeHas(x, 0), true);
        Check.put(x, "dry");
        Check.refuses("a wrong one", BAD, x::law);
        Check.due("is used up, too", Check.tapeHas(x, 0), true);
        Check.due("the law before stands", x.count(2), 2);
        Check.due("an empty one is a law", x.law(), 0);
        Check.due("in place of the one before", x.count(2), 0);
    }

    private static void twelveTexts() {
        Check.says("THE BOG is told in texts (at most 12, one behind another)");
        Check.says("UnsupportedOperationException: there are 12.");
        TurfBog x = new TurfBog();
        for (int i = 1; i <= 11; i++) {
            Check.due("text " + i, x.bog(), i);
        }
        x.image();
        Check.put(x, "day 12");
        Check.due("the 12th", x.bog(), 12);
        Check.put(x, "day 13");
        Check.refuses("the 13th", FULL, x::bog);
        Check.due("12 there are", x.count(1), 12);
        Check.due("nothing of it stays", x.count(6), 12);
        Check.due("but the tape is used up", Check.tapeHas(x, 0), true);
        Check.refuses("an empty 13th", FULL, x::bog);
        Check.due("a law is none of these", x.law(), 0);
        x.back();
        Check.due("going back there are 11", x.count(1), 11);
        Check.due("and one has room again", x.bog(), 12);
        Check.says("Of several exceptions the one told first is thrown");
        Check.put(x, "day ,");
        Check.refuses("a wrong 13th", BAD, x::bog);
        Check.due("its first wrong byte", x.fault(), 4);
    }

    // ---- lines of the bog ----

    private static void lines() {
        Check.says("LINE { ; LINE }, at most 14");
        Check.due("one line", right("day 5").count(6), 5);
        Check.due("fourteen", right(many("day 5", ";", 13) + ";day 14").count(6), 14);
        wrong(many("day 5", ";", 14) + ";|day 5");
        wrong(many("day 5", ";", 14) + " ; |otter");
        wrong(many("day 5", ";", 14) + ";|;");
        wrong(many("day 5", ";", 14) + ";|");
        wrong("|;day 5");
        wrong("day 5;|;day 5");
        wrong("day 5;|");
        wrong("day 5 |day 5");
        Check.says("A text that is empty, or blanks alone, has no LINE.");
        right("");
        right(" ");
        right(" ".repeat(400));
    }

    private static void rows() {
        Check.says("D 0 to 9");
        for (String row : new String[] {"peat", "water"}) {
            int what = row.equals("peat") ? 0 : 1;
            TurfBog x = right(row + " 0 0 9;" + row + " 24 8");
            Check.due(row + " of cell 0", x.cell(0, what), 0);
            Check.due(row + " of cell 1", x.cell(1, what), 9);
            Check.due(row + " of cell 24", x.cell(24, what), 8);
            Check.due(row + " of one not told", x.cell(2, what), what == 0 ? 0 : 5);
            wrong(row + " |25 1");
            wrong(row + " |999 1");
            wrong(row + " 0 |10");
            wrong(row + " 0 9 |10 9");
            wrong(row + " 0 |-1");
            wrong(row + " |-1 1");
            wrong(row + " |;");
            wrong(row + " 0 |;");
        }
    }

    private static void tooManyOfARow() {
        Check.says("at most as many as there are to 24, else it is wrong at the D too many");
        TurfBog x = right("peat 0" + " 3".repeat(24) + " 4");
        Check.due("25 from cell 0 on", x.count(7), 76);
        Check.due("the last", x.cell(24, 0), 4);
        x = right("water 20 1 2 3 4 9");
        Check.due("five from cell 20 on", x.cell(24, 1), 9);
        for (String row : new String[] {"peat", "water"}) {
            wrong(row + " 0" + " 3".repeat(25) + " |4");
            wrong(row + " 20 1 2 3 4 5 |6;day 1");
            wrong(row + " 23 1 2 |77");
            wrong(row + " 24 1 |1");
        }
        Check.says("numbers end where none stands next");
        x = right("peat 3 1 2;peat 0 5;drain 1 2;drain 3");
        Check.due("two and one", x.count(7), 8);
        Check.due("three drains", x.count(10), 3);
        wrong("peat 3 1 2|x");
        wrong("drain 1|,2");
    }

    private static void drains() {
        Check.says("drain: at most 8 CELLS, else it is wrong at the one too many; a DRAIN that is there stays");
        TurfBog x = right("drain 0 1 2 3 4 5 6 24");
        Check.due("eight", x.count(10), 8);
        Check.due("the last of them", x.cell(24, 2), 1);
        Check.due("one", right("drain 24").count(10), 1);
        Check.due("one eight times", right("drain" + " 7".repeat(8)).count(10), 1);
        wrong("drain 0 1 2 3 4 5 6 7 |8");
        wrong("drain" + " 7".repeat(8) + " |7");
        wrong("drain 0 1 2 3 4 5 6 7 |8888");
        wrong("drain |25");
        wrong("drain 24 |25");
        wrong("drain |");
        wrong("drain |;");
        Check.put(x, "drain 24 23");
        x.bog();
        Check.due("those that are there stay", x.count(10), 9);
        Check.due("and the one told again", x.cell(24, 2), 1);
    }

    private static void turves() {
        Check.says("turves: a CELL, how many of 1 to 99, DRY 0, if it is not told, STAGE 0; all that lay there are these then");
        TurfBog x = right("turves 0 1 dry 0;turves 24 99 dry 99;turves 5 60 dry 50");
        Check.due("one", x.cell(0, 3), 1);
        Check.due("dry 0", x.cell(0, 4), 0);
        Check.due("99", x.cell(24, 3), 99);
        Check.due("dry 99", x.cell(24, 4), 99);
        x.foot(5);
        x.foot(5);
        Check.put(x, "turves 5 7");
        x.bog();
        Check.due("these are all", x.cell(5, 3), 7);
        Check.due("dry 0", x.cell(5, 4), 0);
        Check.due("stage 0", x.cell(5, 5), 0);
        wrong("turves |25 1");
        wrong("turves 0 |0");
        wrong("turves 0 |100");
        wrong("turves 0 1 dry |100");
        wrong("turves 0 1 dry |x");
        wrong("turves 0 1 |1");
        wrong("turves 0 1 dry 1 |1");
        wrong("turves 0 1 dry 1 |dry 1");
        wrong("turves 0 |dry 1");
    }

    private static void hearths() {
        Check.says("HANDS 1 to 9, NEED 0 to 99, STORE 0 to 999 (0 at first)");
        TurfBog x = right("hearth hands 1 need 0 store 0;hearth hands 9 need 99 store 999;hearth hands 5 need 5");
        int[][] due = {{1, 0, 0}, {9, 99, 999}, {5, 5, 0}};
        for (int hearth = 0; hearth < due.length; hearth++) {
            for (int what = 0; what < 3; what++) {
                Check.due("hearth(" + hearth + ", " + what + ")", x.hearth(hearth, what), due[hearth][what]);
            }
        }
        Check.says("need 0 to 99; store, day 0 to 999.");
        wrong("hearth hands |0 need 1");
        wrong("hearth hands |10 need 1");
        wrong("hearth hands 1 need |100");
        wrong("hearth hands 1 need 1 store |1000");
        wrong("hearth |need 1 hands 1");
        wrong("hearth hands 1 |store 1");
        wrong("hearth hands 1 need 1 |need 1");
        wrong("hearth hands 1 need 1 |1");
        wrong("hearth hands 1 need 1 store 1 |store 1");
    }

    private static void sixHearths() {
        Check.says("HEARTHS (at most 6, numbered from 0 on)");
        String hearth = "hearth hands 1 need 1";
        TurfBog x = right(many(hearth, ";", 5) + ";hearth hands 6 need 6");
        Check.due("six", x.count(0), 6);
        Check.due("the last is 5", x.hearth(5, 0), 6);
        Check.says("of a LINE, a HEARTH too many, the first word");
        Check.put(x, "day 9;  " + hearth);
        Check.refuses("a seventh by a later text", BAD, x::bog);
        Check.due("the first word of its line", x.fault(), 8);
        Check.due("six there are", x.count(0), 6);
        Check.put(x, "hearth");
        Check.refuses("its first word alone", BAD, x::bog);
        Check.due("is what is wrong", x.fault(), 0);
        wrong(many(hearth, ";", 5) + ";|" + hearth);
        wrong(many(hearth, ";", 5) + "; |hearth hands 0");
        wrong(many("day 1", ";", 9) + ";" + many(hearth, ";", 5) + ";|" + hearth);
    }

    private static void rights() {
        Check.says("right: a HEARTH that there is by then, at most 8 CELLS, else it is wrong at the one too many");
        TurfBog x = right("hearth hands 1 need 1;right 0 0 24 24;hearth hands 1 need 1;right 1 1 2 3 4 5 6 7 8;right 0 7");
        Check.due("those told behind one another stay", x.hearth(0, 3), Check.bits(0, 7, 24));
        Check.due("eight", x.hearth(1, 3), 510);
        wrong("right |1 0");
        wrong("right |1 0;hearth hands 1 need 1");
        wrong("hearth hands 1 need 1;right |2 0");
        wrong("right 0 0 1 2 3 4 5 6 7 |8");
        wrong("right 0" + " 7".repeat(8) + " |7");
        wrong("right 0 |25");
        wrong("right 0 24 |25");
        wrong("right 0|");
        wrong("right 0 |;");
        TurfBog none = new TurfBog();
        Check.put(none, "right 0 0");
        Check.refuses("a right of none", BAD, none::bog);
        Check.due("is wrong at its number", none.fault(), 6);
        right("hearth hands 1 need 1;right 0 0");
    }

    private static void skies() {
        Check.says("sun N | shower N | rain | day N.");
        Check.due("sun 0", right("sun 0").count(3), 0);
        Check.due("sun 9", right("sun 9").count(3), 9);
        wrong("sun |10");
        Check.due("shower 0", right("shower 9;shower 0").count(4), 0);
        Check.due("shower 100", right("shower 100").count(4), 100);
        wrong("shower |101");
        Check.due("rain", right("rain").count(5), 1);
        wrong("rain |0");
        Check.says("store, day 0 to 999.");
        Check.due("day 0", right("day 5;day 0").count(6), 0);
        Check.due("day 999", right("day 999").count(6), 999);
        wrong("day |1000");
    }

    private static void digits() {
        Check.says("Numbers are of 1 to 3 digits.");
        TurfBog x = right("peat 000 007 09;turves 024 001 dry 000;sun 005;day 099");
        Check.due("007", x.cell(0, 0), 7);
        Check.due("09", x.cell(1, 0), 9);
        Check.due("024", x.cell(24, 3), 1);
        Check.due("099", x.count(6), 99);
        wrong("day |0001");
        wrong("day |0000");
        wrong("day |99999999999999999999");
        wrong("peat |0000 1");
        wrong("peat 0 |0001");
        wrong("peat 0 1 |0001");
        wrong("drain 1 |0001");
        wrong("day 1|.0");
        wrong("day |/1");
        wrong("day |:");
    }

    private static void words() {
        Check.says("Words are as long as a to z go on");
        Check.due("a number ends a word", right("day7").count(6), 7);
        Check.due("and a word a number", right("hearth hands1need2store3").hearth(0, 2), 3);
        Check.due("so does ;", right("rain;rain").count(5), 1);
        wrong("|rainy");
        wrong("|rainrain");
        wrong("|da 7");
        wrong("|Rain");
        wrong("rain|R");
        wrong("|RAIN");
        wrong("rain|`");
        wrong("rain|{");
        wrong("hearth |handsneed 1");
        wrong("hearth hands 1 need 1 |stores 1");
        wrong("turves 0 1 |dryer 1");
    }

    private static void blanks() {
        Check.says("between all there may be blanks (32), also ahead and behind.");
        TurfBog x = right("   day   7   ;   turves 3   5 dry    9   ;hearth   hands 2   need 4;right   0   1   2   ");
        Check.due("day", x.count(6), 7);
        Check.due("dry", x.cell(3, 4), 9);
        Check.due("rights", x.hearth(0, 3), 6);
        wrong("day|\t7");
        wrong("day 7|\n");
        wrong("|\0day 7");
        wrong("day 7|" + (char) 160);
        Check.due("a law", rightLaw("   dry   1   if   (   laid   )   ;   sink   2   ", 2).count(2), 2);
        wrongLaw("dry 1|\t");
        wrongLaw("|\ndry 1");
    }

    // ---- the law ----

    private static void lawLines() {
        Check.says("LINE { ; LINE }, at most 12");
        rightLaw("", 0);
        rightLaw("   ", 0);
        rightLaw("dry 1", 1);
        rightLaw(many("sink 1", ";", 12), 12);
        wrongLaw(many("sink 1", ";", 12) + ";|sink 1");
        wrongLaw(many("sink 1", ";", 12) + ";  |otter");
        wrongLaw(many("sink 1", ";", 12) + ";|");
        wrongLaw("dry 1;|");
        wrongLaw("|;");
        wrongLaw("dry 1;|;dry 1");
        wrongLaw("dry 1 |dry 1");
        Check.says("THE LAW (a text, in place of the one before)");
        TurfBog x = rightLaw("dry 1;dry 2;dry 4", 3);
        Check.law(x, "dry 8");
        Check.due("lines", x.count(2), 1);
        Check.due("gain", x.cell(0, 9), 13);
        Check.law(x, "");
        Check.due("no lines are a law", x.count(2), 0);
        Check.due("gain", x.cell(0, 9), 5);
    }

    private static void lawNumbers() {
        Check.says("All numbers are of 1 to 3 digits (N 0 to 20).");
        Check.due("0", rightLaw("dry 0", 1).cell(0, 9), 5);
        Check.due("20", rightLaw("dry 20", 1).cell(0, 9), 25);
        Check.due("020", rightLaw("dry 020", 1).cell(0, 9), 25);
        for (String kind : new String[] {"dry", "soak", "sink"}) {
            wrongLaw(kind + " |21");
            wrongLaw(kind + " |0020");
            wrongLaw(kind + " |-1");
            wrongLaw(kind + " |if rain");
        }
        Check.due("0 and 999", rightLaw("dry 1 if 0 < 999;dry 2 if 998 < 999;dry 4 if 999 < 999", 3).cell(0, 9), 8);
        wrongLaw("dry 1 if |1000 > 1");
        wrongLaw("dry 1 if 1 > |0000");
        wrongLaw("dry 1 if 1 + |1000 > 1");
    }

    private static void lawSums() {
        Check.says("SUM < SUM | SUM > SUM. SUM: PART { + PART }");
        TurfBog x = Check.bog("sun 0;water 24 7;turves 24 5;peat 24 3");
        lawGain(x, "dry 1 if sun < sun;dry 2 if sun > sun;dry 4 if not sun > sun", 0, 4);
        lawGain(x, "dry 1 if cell < 25;dry 2 if cell < 24;dry 4 if cell > 23;dry 8 if cell > 24", 24, 5);
        lawGain(x, "dry 1 if x + y > 7 ;dry 2 if x+y>8;dry 4 if x < 5;dry 8 if y < 4", 24, 5);
        lawGain(x, "dry 1 if depth + water + turves > 14;dry 2 if depth+water+turves > 15", 24, 1);
        lawGain(x, "dry 1 if 0 < cell + x + y", 0, 0);
        lawGain(x, "dry 1 if sun < 1;dry 2 if sun > 0", 0, 1);
        x.sky(9, false);
        lawGain(x, "dry 1 if sun > 8;dry 2 if sun > 9", 0, 10);
        x.sky(0, false);
        wrongLaw("dry 1 if sun + |");
        wrongLaw("dry 1 if sun |");
        wrongLaw("dry 1 if sun < |");
        wrongLaw("dry 1 if sun < sun |< sun");
        wrongLaw("dry 1 if |< sun");
        wrongLaw("dry 1 if |+ sun < 1");
        wrongLaw("dry 1 if sun < |(1)");
        wrongLaw("dry 1 if sun < 1 + |laid");
        wrongLaw("dry 1 if sun < |drained");
        wrongLaw("dry 1 if (sun|) < 1");
        wrongLaw("dry 1 if sun |= 1");
    }

    private static void lawGain(TurfBog x, String law, int cell, int due) {
        Check.law(x, law);
        Check.due("gain of " + cell + " by '" + law + "'", x.cell(cell, 9), due);
    }

    private static void lawFacts() {
        Check.says("Of a CELL: drained: it is DRAINED; laid: there are TURVES.");
        TurfBog x = Check.bog("sun 0;drain 24 19 0;turves 1 1");
        String law = "dry 1 if drained;dry 2 if laid;dry 4 if not drained and not laid;dry 8 if rain";
        lawGain(x, law, 24, 1);
        lawGain(x, law, 19, 1);
        lawGain(x, law, 0, 4);
        lawGain(x, law, 23, 4);
        lawGain(x, law, 1, 2);
        x.sky(3, true);
        lawGain(x, law, 1, 7);
        lawGain(x, "dry 1 if rain and laid;dry 2 if not rain;dry 4 if laid and rain;dry 8 if not not rain", 1, 10);
        lawGain(x, "dry 1 if rain and drained;dry 2 if not drained;dry 4 if not laid", 24, 2);
        Check.says("C: ALL { or ALL }; ALL: ATOM { and ATOM }; ATOM: not ATOM");
        x.sky(0, false);
        lawGain(x, "dry 1 if laid or laid and rain;dry 2 if (laid or laid) and rain;dry 4 if rain and laid or laid", 1, 5);
        lawGain(x, "dry 1 if not rain and laid;dry 2 if not (rain and laid);dry 4 if not laid or laid", 1, 7);
        wrongLaw("dry 1 if rain |not rain");
        wrongLaw("dry 1 if |or rain");
        wrongLaw("dry 1 if rain and |or rain");
        wrongLaw("dry 1 if rain or |");
        wrongLaw("dry 1 if not |");
        wrongLaw("dry 1 if (|)");
        wrongLaw("dry 1 if rain|)");
        wrongLaw("dry 1 |and rain");
        wrongLaw("dry 1 |(rain)");
    }

    private static void gainAndSinks() {
        Check.says("GAIN: if there is RAIN, STAGE less 3, else SUN and twice STAGE; and the sum of N of all dry LINES that hold, "
                + "less that of all soak LINES (below 0, too).");
        TurfBog x = Check.bog("turves 1 1 dry 50;turves 2 1 dry 50;sun 9;rain");
        x.foot(1);
        x.foot(2);
        x.foot(2);
        int[] inRain = {-3, -2, -1};
        int[] inSun = {9, 11, 13};
        for (int cell = 0; cell < 3; cell++) {
            Check.due("gain in rain of stage " + cell, x.cell(cell, 9), inRain[cell]);
        }
        Check.law(x, many("soak 20", ";", 12));
        Check.due("below 0", x.cell(0, 9), -243);
        x.sky(9, false);
        Check.due("below 0 in sun", x.cell(2, 9), -227);
        Check.law(x, "");
        for (int cell = 0; cell < 3; cell++) {
            Check.due("gain in sun of stage " + cell, x.cell(cell, 9), inSun[cell]);
        }
        Check.law(x, many("dry 20", ";", 12));
        Check.due("above 99", x.cell(0, 9), 249);
        Check.says("SINKS: WATER, and the sum of N of all sink LINES that hold.");
        TurfBog y = Check.bog("water 0 0 9");
        Check.due("without a law", y.cell(0, 10), 0);
        Check.law(y, many("sink 20", ";", 11) + ";sink 20 if x > 0");
        Check.due("eleven of them", y.cell(0, 10), 220);
        Check.due("all", y.cell(1, 10), 249);
        Check.law(y, "dry 5;soak 7");
        Check.due("others do not count", y.cell(1, 10), 9);
    }

    private static void deep() {
        Check.says("( and not within one another at most 6 deep.");
        rightLaw("dry 1 if ((((((rain))))))", 1);
        rightLaw("dry 1 if not not not not not not rain", 1);
        rightLaw("dry 1 if (not (not (not rain)))", 1);
        rightLaw("dry 1 if ((((((rain)))))) and ((((((rain)))))) or not not not not not not rain", 1);
        rightLaw("dry 1 if (((((not rain and not rain or (rain) and (sun < 1))))))", 1);
        Check.says("the ( or not that is a 7th one deep");
        wrongLaw("dry 1 if ((((((|(rain)))))))");
        wrongLaw("dry 1 if not not not not not not |not rain");
        wrongLaw("dry 1 if not not not not not not |(rain)");
        wrongLaw("dry 1 if ((((((|not rain))))))");
        wrongLaw("dry 1 if ((((((rain and |not rain))))))");
        wrongLaw("dry 1 if ((((((rain or |(rain)))))))");
        wrongLaw("dry 1 if (not (not (not |(rain))))");
        wrongLaw("dry 1 if rain;dry 1 if (((((( |(");
        TurfBog x = Check.bog("sun 0");
        lawGain(x, "dry 1 if not not not not not not rain;dry 2 if not not not not not rain", 0, 2);
    }

    private static void firstWrongByte() {
        Check.says("The first wrong byte: the begin of the first thing that cannot stand there "
                + "(a number of more digits, or out of its bounds, or that tells none that can be; a word that is none;");
        wrong("day |1234");
        wrong("sun |12");
        wrong("right |5 1");
        wrong("day 7;  |otter 7");
        wrong("|7");
        wrong("|" + (char) 255);
        wrong("day 7;day|;day 1");
        wrong("|otter;otter");
        wrongLaw("dry |123");
        wrongLaw("|otter");
        wrongLaw("dry 1 if |otter");
        wrongLaw("dry 1 |otter");
        wrongLaw("dry 1 if rain |otter");
        wrongLaw("|peat 0 1");
        wrong("|dry 1");
    }

    private static void moreMustCome() {
        Check.says("or the text's length, if more must come.");
        String[] texts = {"peat", "peat 0", "water 3 ", "drain", "turves", "turves 0", "turves 0 1 dry", "hearth",
            "hearth hands", "hearth hands 1", "hearth hands 1 need", "hearth hands 1 need 1 store", "right", "right 0", "sun",
            "shower", "day", "day  ", "day 1;", "day 1 ; "};
        for (String text : texts) {
            wrong(text + "|");
        }
        String[] laws = {"dry", "soak ", "sink", "dry 1 if", "dry 1 if not", "dry 1 if (", "dry 1 if (rain", "dry 1 if (rain or",
            "dry 1 if rain and", "dry 1 if 1", "dry 1 if 1 <", "dry 1 if 1 > ", "dry 1 if 1 +", "dry 1 if 1 > 1 +", "dry 1;"};
        for (String law : laws) {
            wrongLaw(law + "|");
        }
        TurfBog x = new TurfBog();
        Check.put(x, "day" + " ".repeat(397));
        Check.refuses("400 bytes, and more must come", BAD, x::bog);
        Check.due("their length", x.fault(), 400);
    }

    private static void nothingStays() {
        Check.says("Of a wrong text nothing stays.");
        String lines = "peat 0 9;water 0 9;drain 0;turves 0 9 dry 9;hearth hands 9 need 9 store 9;right 0 0;sun 1;shower 1;rain;day 1;";
        TurfBog x = Check.bog("peat 0 1;water 0 1;drain 5;turves 0 1 dry 1;hearth hands 1 need 1 store 1;right 0 1;sun 2;shower 2;day 2");
        Check.law(x, "dry 1;soak 2");
        x.dig(7);
        String before = Check.picture(x);
        Check.put(x, lines + "otter");
        Check.refuses("a wrong last line", BAD, x::bog);
        Check.due("all but fault()", Check.picture(x), before.replace("fault: -1", "fault: " + lines.length()));
        TurfBog y = Check.bog("turves 0 1");
        Check.law(y, "dry 1;soak 2;sink 3");
        y.dig(7);
        before = Check.picture(y);
        Check.put(y, "dry 20;sink 20;dry 20 if laid;otter");
        Check.refuses("a wrong last line of a law", BAD, y::law);
        Check.due("all but fault()", Check.picture(y), before.replace("fault: -1", "fault: 30"));
    }

    private static void latestFault() {
        Check.says("The first wrong byte of the latest text that was read; NONE without one, and ahead of any.");
        TurfBog x = new TurfBog();
        Check.due("ahead of any", x.fault(), -1);
        Check.put(x, "day 1;x");
        Check.refuses("wrong", BAD, x::bog);
        Check.due("of it", x.fault(), 6);
        Check.due("still", x.fault(), 6);
        Check.put(x, "dry x");
        Check.refuses("wrong", BAD, x::law);
        Check.due("of the latest", x.fault(), 4);
        Check.due("a right law", x.law(), 0);
        Check.due("without one", x.fault(), -1);
        Check.put(x, "x");
        Check.refuses("wrong", BAD, x::bog);
        Check.due("at 0", x.fault(), 0);
        x.net();
        Check.due("a net is no text", x.fault(), 0);
        x.bog();
        Check.due("without one", x.fault(), -1);
    }
}
