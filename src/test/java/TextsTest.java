import java.nio.charset.StandardCharsets;

/** Promises 1 to 6: a new object, the tape, the texts and the first wrong byte. */
public final class TextsTest {
    private static final Class<IllegalArgumentException> BAD = IllegalArgumentException.class;

    public static void main(String[] args) {
        newObject();
        tape();
        bogTexts();
        bogFaults();
        manyTexts();
        laws();
        lawFaults();
        latestFault();
        Check.finish();
    }

    private static void newObject() {
        TurfBog x = new TurfBog();
        int[] counts = {0, 0, -1, 5, 0, 0, 0, 0, 0, 0, 0, 0, 0};
        for (int what = 0; what < counts.length; what++) {
            Check.due("new: count(" + what + ")", x.count(what), counts[what]);
        }
        for (int c = 0; c < 25; c++) {
            int[] due = {0, 5, 0, 0, 0, 0, 0, 0, 0};
            for (int what = 0; what < due.length; what++) {
                Check.due("new: cell(" + c + ", " + what + ")", x.cell(c, what), due[what]);
            }
        }
        Check.due("new: fault()", x.fault(), -1);
        Check.due("new: seed", x.seed(1), 1);
        Check.due("new: back()", x.back(), false);
        Check.due("new: undo()", x.undo(), false);
        Check.due("NONE", TurfBog.NONE, -1);
    }

    private static void tape() {
        TurfBog x = new TurfBog();
        Check.due("end(0) of none", x.end(0), true);
        Check.due("end(1) of none", x.end(1), false);
        Check.due("end(-1)", x.end(-1), false);
        for (int i = 1; i <= 20; i++) {
            Check.due("feed " + i, x.feed(0, 0, 0, 0, 0), 20 * i);
        }
        Check.due("feed of a full tape", x.feed(0, 0, 0, 0, 0), -1);
        Check.due("end(401)", x.end(401), false);
        Check.due("end(381)", x.end(381), true);
        Check.due("feed beyond 400", x.feed(1, 1, 1, 1, 1), -1);
        Check.due("end(381) again", x.end(381), true);
        Check.due("end(380)", x.end(380), true);
        Check.due("feed to 400", x.feed(0, 0, 0, 0, 0), 400);
        Check.due("end(2)", x.end(2), true);
        Check.due("net of cell 0 twice", x.net(), 9);
        Check.due("the tape is used up", x.end(1), false);
        x.feed(0x18000000, 0x01020304, 0, 0, 0);
        x.end(8);
        Check.refuses("eight cells", BAD, x::net);
        Check.due("a tape that is wrong is used up, too", x.feed(0x06000000, 0, 0, 0, 0), 20);
        x.end(1);
        Check.due("the highest byte comes first", x.net(), 7);
        x.feed(0x18181813, 0, 0, 0, 0);
        x.end(3);
        Check.due("three bytes", x.net(), 1);
        x.feed(0x18181813, 0, 0, 0, 0);
        x.end(4);
        Check.due("the lowest byte comes last", x.net(), 2);
    }

    private static void bogTexts() {
        TurfBog x = new TurfBog();
        Check.put(x, "  peat 3 9 0 1;peat24 7 ;water 0 0 9;drain 1 1 24;turves 2 99 dry 99;turves 2 5;"
                + "hearth hands 9 need 99 store 999;hearth hands 1 need 0;right 1 0 24 24; sun 0;shower 100;rain;day 999 ");
        Check.due("bog()", x.bog(), 1);
        Check.due("fault()", x.fault(), -1);
        int[] depth = {0, 0, 0, 9, 0, 1, 0};
        for (int c = 0; c < depth.length; c++) {
            Check.due("depth " + c, x.cell(c, 0), depth[c]);
        }
        Check.due("depth 24", x.cell(24, 0), 7);
        Check.due("water 0", x.cell(0, 1), 0);
        Check.due("water 1", x.cell(1, 1), 9);
        Check.due("water 2", x.cell(2, 1), 5);
        Check.due("drains", x.count(10), 2);
        Check.due("turves told last are all", x.cell(2, 3), 5);
        Check.due("and are not dry", x.cell(2, 4), 0);
        Check.due("hearths", x.count(0), 2);
        Check.due("store", x.hearth(0, 2), 999);
        Check.due("no store told", x.hearth(1, 2), 0);
        Check.due("rights of none", x.hearth(0, 3), 0);
        Check.due("rights", x.hearth(1, 3), Check.bits(0, 24));
        Check.due("sun", x.count(3), 0);
        Check.due("shower", x.count(4), 100);
        Check.due("rain", x.count(5), 1);
        Check.due("day", x.count(6), 999);
        Check.put(x, "right 0 1 2 3 4 5 6 7 8;drain 2;peat 3 0");
        Check.due("bog() again", x.bog(), 2);
        Check.due("drains stay", x.count(10), 3);
        Check.due("a later text goes over an earlier one", x.cell(3, 0), 0);
        Check.due("hearths of an earlier text have rights told", x.hearth(0, 3), 510);
        Check.put(x, "   ");
        Check.due("blanks alone", x.bog(), 3);
    }

    /** Each text is wrong at the byte where its first | stands (which is taken out). */
    private static void bogWrong(TurfBog x, String marked) {
        int at = marked.indexOf('|');
        String text = marked.substring(0, at) + marked.substring(at + 1);
        Check.put(x, text);
        Check.refuses("bog '" + text + "'", BAD, x::bog);
        Check.due("fault of '" + text + "'", x.fault(), at);
    }

    private static void bogFaults() {
        TurfBog x = Check.bog("hearth hands 1 need 1;day 7");
        String[] texts = {"|;", "|Peat 0 1", "|5", "|peats 0 1", "|drained", "|rainz", "rain|`", "rain|{", "peat|", "peat |x", "peat |25 1", "peat 0|",
            "peat 0 |;", "peat 0 |10", "peat 0 |0000", "peat 23 1 2 |3", "peat 0 1|,", "peat 0 1|x", "water |0001 5",
            "drain|", "drain |25", "drain 1 |99", "drain 0 0 0 0 0 0 0 0 |0", "turves |25 1", "turves 0|", "turves 0 |0", "turves 0 |100",
            "turves 0 1 |2", "turves 0 1 dry|", "turves 0 1 dry |100", "turves 0 1 |wet 5", "hearth |5", "hearth hands |0",
            "hearth hands |10", "hearth hands 9|", "hearth hands 9 need |100", "hearth hands 9 need 1 store |1000",
            "hearth hands 9 need 1 store|", "hearth hands 9 need 1 |hands 2", "right |1 0", "right 0|", "right 0 |25",
            "right 0 1 2 3 4 5 6 7 8 |9", "sun |10", "sun|", "shower |101", "day |1000", "rain |rain", "rain|.",
            "day 1;|", "day 1; |", "day 1;|;", "day 1 |day 2", "|\t", "day 1;day|"};
        for (String text : texts) {
            bogWrong(x, text);
        }
        Check.put(x, "day 8  ; ");
        Check.refuses("a text that ends behind ;", BAD, x::bog);
        Check.due("its fault is its length", x.fault(), 9);
        Check.due("nothing stays", x.count(6), 7);
        Check.due("texts", x.count(1), 1);
        String line = "hearth hands 1 need 1;";
        bogWrong(x, line.repeat(5) + "|" + line);
        bogWrong(x, "day 5;".repeat(14) + "|day 5");
        bogWrong(x, "day 5;".repeat(14) + "|");
        bogWrong(x, "day 5;".repeat(14) + "  |7");
        Check.put(x, ("day 5;".repeat(14) + "x").substring(0, 83));
        Check.due("fourteen lines", x.bog(), 2);
        Check.put(x, "day 1" + (char) 233);
        Check.refuses("a byte above 127", BAD, x::bog);
        Check.due("fault there", x.fault(), 5);
    }

    private static void manyTexts() {
        TurfBog x = new TurfBog();
        for (int i = 1; i <= 12; i++) {
            Check.put(x, "day " + i);
            Check.due("text " + i, x.bog(), i);
        }
        Check.put(x, "day 13");
        Check.refuses("the 13th text", UnsupportedOperationException.class, x::bog);
        Check.due("nothing stays", x.count(6), 12);
        Check.due("it was read and is right", x.fault(), -1);
        Check.due("the tape is used up", x.end(1), false);
        Check.put(x, "day x");
        Check.refuses("a wrong 13th text", BAD, x::bog);
        Check.due("its fault", x.fault(), 4);
    }

    private static void laws() {
        TurfBog x = Check.bog("peat 0 3;turves 7 12;water 7 4;sun 2;drain 24");
        Check.due("no law", x.count(2), -1);
        Check.put(x, "");
        Check.due("an empty law", x.law(), 0);
        Check.due("lines of it", x.count(2), 0);
        gain(x, "dry 20", 7, 22);
        gain(x, "soak 20;dry 1;dry 2", 7, -15);
        gain(x, "sink 9", 7, 2);
        gain(x, "dry 1 if laid;dry 2 if not laid", 7, 3);
        gain(x, "dry 1 if laid;dry 2 if not laid", 8, 4);
        x.sky(2, false);
        Check.put(x, "turves 9 1");
        x.bog();
        gain(x, "dry 1 if laid", 9, 3);
        gain(x, "dry 1 if drained", 24, 3);
        gain(x, "dry 1 if rain", 7, 2);
        gain(x, "dry 1 if cell>6 and cell<8;dry 2 if x+0>1 and x<3;dry 4 if y>0 and y<2", 7, 9);
        gain(x, "dry 1 if turves > 11 and turves < 13;dry 2 if water>3 and water<5;dry 4 if sun<3 and sun>1", 7, 9);
        gain(x, "dry 1 if depth > 2 and depth<4", 0, 3);
        gain(x, "dry 1 if sun>sun;dry 2 if sun<sun", 0, 2);
        gain(x, "dry 1 if sun+1+999+x>999+4", 2, 3);
        gain(x, "dry 1 if laid or rain and rain", 7, 3);
        gain(x, "dry 1 if (laid or rain)and rain", 7, 2);
        gain(x, "dry 1 if not laid or laid;dry 2 if not(laid or laid);dry 4 if not sun<1", 7, 7);
        gain(x, "dry 5if(((((( laid ))))))", 7, 7);
        Check.law(x, "sink 3 if laid;sink 20;dry 5");
        Check.due("sinks", x.cell(7, 10), 27);
        Check.put(x, "dry 1;".repeat(12).substring(0, 71));
        Check.due("twelve lines", x.law(), 12);
    }

    private static void gain(TurfBog x, String law, int cell, int due) {
        Check.law(x, law);
        Check.due("gain of " + cell + " by '" + law + "'", x.cell(cell, 9), due);
    }

    private static void lawWrong(TurfBog x, String marked) {
        int at = marked.indexOf('|');
        String text = marked.substring(0, at) + marked.substring(at + 1);
        Check.put(x, text.getBytes(StandardCharsets.ISO_8859_1));
        Check.refuses("law '" + text + "'", BAD, x::law);
        Check.due("fault of '" + text + "'", x.fault(), at);
    }

    private static void lawFaults() {
        TurfBog x = new TurfBog();
        Check.law(x, "dry 1;dry 2");
        String[] texts = {"|peat", "dry|", "dry |21", "dry |x", "dry 1 |2", "dry 1 if|", "dry 1 |or rain", "dry 1 if |if",
            "dry 1 if sun|", "dry 1 if sun |;dry 1", "dry 1 if sun<|", "dry 1 if sun< |rain", "dry 1 if sun<5|<5",
            "dry 1 if sun+|", "dry 1 if sun+ |)", "dry 1 if |1000<5", "dry 1 if 999<|0000", "dry 1 if rain |rain",
            "dry 1 if rain and|", "dry 1 if rain or |or", "dry 1 if (rain|", "dry 1 if (rain|;", "dry 1 if rain|)",
            "dry 1 if (|)", "dry 1 if not|", "dry 1 if not |and", "dry 1 if laid |< 5", "dry 1 if (sun |) < 5",
            "dry 1 if ((((((|(rain)))))))", "dry 1 if (not(not(not |(rain))))", "dry 1 if (not(not(not |not rain)))",
            "dry 1 if ((((((|not rain))))))", "dry 1 if |raining", "dry 1 if |rainz", "dry 1 if |Rain", "dry 1;|", "dry 1|:", "dry 1|-1",
            "dry 1 if sun |= 5", "dry 1 if |-1 < 5"};
        for (String text : texts) {
            lawWrong(x, text);
        }
        lawWrong(x, "dry 1;".repeat(12) + "|dry 1");
        lawWrong(x, "dry 1;".repeat(12) + "|");
        Check.due("the law before stays", x.count(2), 2);
        Check.law(x, "dry 1 if (not (not (not rain))) and ((((((rain)))))) or not not not not not not rain");
        Check.due("six deep, side by side", x.count(2), 1);
    }

    private static void latestFault() {
        TurfBog x = new TurfBog();
        Check.put(x, "x");
        Check.refuses("wrong bog", BAD, x::bog);
        Check.put(x, "dry 1");
        x.law();
        Check.due("fault of the latest text alone", x.fault(), -1);
        Check.put(x, "dry x");
        Check.refuses("wrong law", BAD, x::law);
        Check.put(x, 99);
        Check.refuses("what is no text", BAD, x::net);
        Check.due("is not read as one", x.fault(), 4);
    }
}
