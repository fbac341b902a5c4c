/** The boundaries of ROWS, of IMAGES and of count (promises 1, 48 to 54), a sentence of the document each. */
public final class EdgesRowsTest {
    private static final String DIP = "high 10 5 0 5 10;drag 0;push 100;block 2;";

    public static void main(String[] args) {
        missingAtFirst();
        noneTo60();
        inPlaceOfAnother();
        bits8();
        bits16();
        bits32();
        bits64();
        allCut();
        stormFirst();
        stormOutside();
        stormNone();
        keepAll60();
        keepTooFew();
        keepCut();
        keepWhereItDoesNot();
        imagesNone();
        imagesTwo();
        imageOfNothing();
        imageBut();
        counts();
        Check.end();
    }

    private static void missingAtFirst() {
        Check.promise("48, 49 ROWS 0 to 3 are MISSING at first");
        CoasterDay x = Check.on(DIP);
        for (int row = 0; row < 4; row++) {
            Check.due("write", x.write(row, 0, 1), -6);
            Check.due("storm", x.storm(row, 1), -6);
            Check.due("keep", x.keep(row, 1), -6);
            Check.due("write of no number", x.write(row, 99, 1), -6);
        }
        for (int row : new int[] {-1, 4, Integer.MIN_VALUE, Integer.MAX_VALUE}) {
            Check.due("write", x.write(row, 0, 1), -2);
            Check.due("storm", x.storm(row, 1), -2);
            Check.due("keep", x.keep(row, 1), -2);
            Check.due("store", x.store(row, 0, 0), -2);
        }
        x.store(2, 0, 60);
        Check.due("the others are MISSING still", x.write(1, 0, 1), -6);
        Check.due("the others are MISSING still", x.write(3, 0, 1), -6);
        Check.due("it isn't", x.write(2, 0, 1), 1);
    }

    private static void noneTo60() {
        Check.promise("48 0 to 60 numbers");
        CoasterDay x = new CoasterDay();
        Check.due("-1", x.store(0, 0, -1), -3);
        Check.due("61", x.store(0, 0, 61), -3);
        Check.due("MISSING still", x.write(0, 0, 1), -6);
        Check.due("0", x.store(0, 0, 0), 0);
        Check.due("no number 0", x.write(0, 0, 1), -7);
        Check.due("1", x.store(0, 0, 1), 0);
        Check.due("number 0", x.write(0, 0, 1), 1);
        Check.due("no number 1", x.write(0, 1, 1), -7);
        Check.due("no number -1", x.write(0, -1, 1), -7);
        Check.due("60", x.store(0, 3, 60), 0);
        Check.due("number 59", x.write(0, 59, Long.MIN_VALUE), Long.MIN_VALUE);
        Check.due("no number 60", x.write(0, 60, 1), -7);
        Check.due("far above", x.write(0, Integer.MAX_VALUE, 1), -7);
        Check.due("far below", x.write(0, Integer.MIN_VALUE, 1), -7);
        Check.due("61, and the ROW stays", x.store(0, 0, 61), -3);
        Check.due("60 of 64 bits", x.write(0, 59, 1L << 40), 1L << 40);
        Check.due("sort 4", x.store(0, 4, 1), -2);
        Check.due("sort -1", x.store(0, -1, 1), -2);
        Check.due("sort 4, 61", x.store(0, 4, 61), -2);
        Check.due("60 of 64 bits", x.write(0, 59, 1L << 41), 1L << 41);
    }

    private static void inPlaceOfAnother() {
        Check.promise("48 all 0 (in place of another one)");
        CoasterDay x = Check.on(DIP);
        x.store(0, 3, 60);
        for (int i = 0; i < 60; i++) {
            x.write(0, i, 99);
        }
        Check.due("all 99", x.storm(0, 1), 0);
        x.store(0, 3, 30);
        Check.due("all 0", x.storm(0, 1), -1);
        Check.due("30 alone", x.write(0, 30, 1), -7);
        x.write(0, 29, 99);
        x.store(0, 1, 60);
        Check.due("all 0, what was behind them, too", x.storm(0, 1), -1);
        x.write(0, 59, 13);
        Check.due("the last", x.storm(0, 1), 59);
        Check.due("of another sort", x.write(0, 0, 32768), -32768);
    }

    private static void writes(int sort, long[][] wrote) {
        CoasterDay x = new CoasterDay();
        x.store(1, sort, 2);
        for (long[] w : wrote) {
            Check.due(w[0] + "", x.write(1, 1, w[0]), w[1]);
            Check.due("once more " + w[1], x.write(1, 0, w[1]), w[1]);
        }
    }

    private static void bits8() {
        Check.promise("49 numbers of 8 bits (sort 0)");
        writes(0, new long[][] {{0, 0}, {-1, -1}, {127, 127}, {128, -128}, {129, -127}, {255, -1}, {256, 0}, {-128, -128}, {-129, 127}, {-256, 0},
            {Integer.MAX_VALUE, -1}, {Integer.MIN_VALUE, 0}, {Long.MAX_VALUE, -1}, {Long.MIN_VALUE, 0}, {Long.MIN_VALUE + 127, 127}});
    }

    private static void bits16() {
        Check.promise("49 numbers of 16 bits (sort 1)");
        writes(1, new long[][] {{0, 0}, {-1, -1}, {128, 128}, {32767, 32767}, {32768, -32768}, {65535, -1}, {65536, 0}, {-32768, -32768}, {-32769, 32767},
            {Integer.MAX_VALUE, -1}, {Integer.MIN_VALUE, 0}, {Long.MAX_VALUE, -1}, {Long.MIN_VALUE, 0}});
    }

    private static void bits32() {
        Check.promise("49 numbers of 32 bits (sort 2)");
        writes(2, new long[][] {{0, 0}, {-1, -1}, {65536, 65536}, {Integer.MAX_VALUE, Integer.MAX_VALUE}, {1L << 31, Integer.MIN_VALUE},
            {(1L << 32) - 1, -1}, {1L << 32, 0}, {Integer.MIN_VALUE, Integer.MIN_VALUE}, {Integer.MIN_VALUE - 1L, Integer.MAX_VALUE},
            {Long.MAX_VALUE, -1}, {Long.MIN_VALUE, 0}});
    }

    private static void bits64() {
        Check.promise("49 numbers of 64 bits (sort 3)");
        writes(3, new long[][] {{0, 0}, {-1, -1}, {1L << 31, 1L << 31}, {1L << 32, 1L << 32}, {Long.MAX_VALUE, Long.MAX_VALUE},
            {Long.MIN_VALUE, Long.MIN_VALUE}, {Long.MIN_VALUE + 1, Long.MIN_VALUE + 1}});
    }

    /** What is there is the cut number: storm() tells. */
    private static void allCut() {
        Check.promise("49 cut to its sort: as it is there");
        CoasterDay x = Check.on(DIP);
        for (int sort = 0; sort < 4; sort++) {
            x.store(0, sort, 1);
            long over = sort == 3 ? 99 : 1L << (8 << sort);
            x.write(0, 0, over);
            Check.due("sort " + sort + ": 0, or 99", x.storm(0, 1), sort == 3 ? 0 : -1);
            x.write(0, 0, over + (sort == 3 ? 0 : 13));
            Check.due("sort " + sort + ": 13, or 99", x.storm(0, 1), 0);
            x.write(0, 0, 1L << (8 << sort) - 1);
            Check.due("sort " + sort + ": below 0 counts as 0", x.storm(0, 1), -1);
        }
    }

    /** By 1 a RUN on DIP is OUT in WIND to 12. */
    private static void stormFirst() {
        Check.promise("50 the first number (from 0 on) by which a RUN isn't OUT");
        CoasterDay x = Check.on(DIP);
        x.store(3, 0, 60);
        for (int i = 59; i >= 0; i -= 59) {
            x.write(3, i, 12);
            Check.due("12 at " + i, x.storm(3, 1), i == 59 ? -1 : 59);
            x.write(3, i, 13);
            Check.due("13 at " + i, x.storm(3, 1), i);
        }
        Check.due("by 20 it is OUT", x.storm(3, 20), -1);
        x.store(3, 0, 1);
        x.write(3, 0, 13);
        Check.due("one number", x.storm(3, 1), 0);
        x.store(3, 0, 0);
        Check.due("no number", x.storm(3, 1), -1);
    }

    private static void stormOutside() {
        Check.promise("50 below 0 counts as 0, above 99 as 99");
        // By 10 LOSS is a fifth of WIND: 19 by 99 and 95, 18 by 94. SPEED 18 is enough for 94 alone.
        CoasterDay x = Check.on("high 0 0;push 18;drag 0;");
        x.store(0, 3, 1);
        long[][] due = {{94, -1}, {95, 0}, {98, 0}, {99, 0}, {100, 0}, {Integer.MAX_VALUE, 0}, {1L << 32, 0}, {Long.MAX_VALUE, 0}, {0, -1}, {-1, -1},
            {-100, -1}, {-1L << 32, -1}, {Long.MIN_VALUE, -1}, {(1L << 32) + 5, 0}, {-(1L << 32) + 99, -1}};
        for (long[] d : due) {
            x.write(0, 0, d[0]);
            Check.due(d[0] + "", x.storm(0, 10), d[1]);
        }
        CoasterDay y = Check.on("high 0 0;push 19;drag 0;");
        y.store(0, 3, 1);
        y.write(0, 0, Long.MAX_VALUE);
        Check.due("above 99 isn't more than 99", y.storm(0, 10), -1);
        CoasterDay z = Check.on("high 0 0;drag 0;");
        z.store(0, 0, 1);
        z.write(0, 0, -128);
        Check.due("below 0 isn't less than 0", z.storm(0, 1), -1);
        z.write(0, 0, 1);
        Check.due("without COLD", z.storm(0, 2), 0);
        Check.due("2 by 3 is 0", z.storm(0, 3), -1);
    }

    private static void stormNone() {
        Check.promise("50 NONE: there is none");
        CoasterDay x = Check.on("high 0 9;drag 0;");
        x.store(0, 0, 3);
        Check.due("never OUT: the first number", x.storm(0, 20), 0);
        x.store(0, 0, 0);
        Check.due("never OUT, but no number", x.storm(0, 20), -1);
        CoasterDay y = Check.on("high 9 0;drag 0;push 999;");
        y.store(0, 0, 60);
        y.write(0, 59, 99);
        Check.due("always OUT", y.storm(0, 1), -1);
    }

    private static void keepAll60() {
        Check.promise("51 from number 0 on: how many; 60 POINTS");
        CoasterDay x = Check.on("high" + " 0".repeat(60) + ";push 99;drag 0;");
        x.store(0, 0, 59);
        Check.due("59 numbers", x.keep(0, 1), -7);
        Check.due("nothing happened", x.storm(0, 1), -1);
        x.store(0, 0, 60);
        Check.due("60 numbers", x.keep(0, 1), 60);
        Check.tell(x, 0, "high 0 0;push 197;drag 0;");
        Check.due("99 first at 0", x.storm(0, 1), 0);
        for (int i = 0; i < 59; i++) {
            x.write(0, i, 98);
        }
        Check.due("99 last at 59", x.storm(0, 1), 59);
    }

    private static void keepTooFew() {
        Check.promise("51 -7, and nothing happens: it has fewer numbers than there are POINTS");
        CoasterDay x = Check.on(DIP);
        for (int n = 0; n <= 4; n++) {
            x.store(0, 3, n);
            if (n > 0) {
                x.write(0, n - 1, 13);
            }
            Check.due(n + " numbers", x.keep(0, 1), -7);
            Check.due(n + " numbers: the last alone is 13", x.storm(0, 1), n - 1);
        }
        x.store(0, 3, 5);
        Check.due("5 numbers", x.keep(0, 1), 5);
        x.store(0, 3, 6);
        x.write(0, 5, 99);
        Check.due("6 numbers", x.keep(0, 1), 5);
        for (int i = 0; i < 5; i++) {
            x.write(0, i, 0);
        }
        Check.due("the sixth is as it was", x.storm(0, 1), 5);
    }

    private static void keepCut() {
        Check.promise("51 SPEEDS cut to its sort");
        // SPEED is 256 and 13 at POINT 1, 128 at POINT 2, 13 at POINT 3.
        CoasterDay x = Check.on("high 10 0 0 0 0;drag 0;push 0;chain 0 to 1 speed 269;chain 1 to 2 speed 128;");
        Check.due("at 1", x.speed(1, 1), 269);
        Check.due("at 2", x.speed(1, 2), 128);
        x.store(0, 0, 5);
        x.store(1, 1, 5);
        x.keep(0, 1);
        x.keep(1, 1);
        Check.tell(x, 0, DIP);
        Check.due("8 bits: 13 at 1", x.storm(0, 1), 1);
        x.write(0, 1, 12);
        Check.due("8 bits: -128 at 2, 3, 4", x.storm(0, 1), -1);
        x.write(1, 1, 12);
        Check.due("16 bits: 128 at 2", x.storm(1, 1), 2);
    }

    private static void keepWhereItDoesNot() {
        Check.promise("51 0 where it doesn't");
        CoasterDay x = Check.on("high 0 0 9 0;drag 0;push 50;");
        x.store(0, 0, 4);
        for (int i = 0; i < 4; i++) {
            x.write(0, i, 77);
        }
        Check.due("keep", x.keep(0, 1), 4);
        Check.tell(x, 0, DIP);
        Check.due("50 at 0", x.storm(0, 1), 0);
        x.write(0, 0, 0);
        Check.due("50 at 1", x.storm(0, 1), 1);
        x.write(0, 1, 0);
        Check.due("0 at 2 and 3", x.storm(0, 1), -1);
        CoasterDay y = Check.on("high 10 0 10 99;drag 0;push 13;");
        y.store(0, 0, 4);
        y.keep(0, 1);
        Check.tell(y, 0, DIP);
        y.write(0, 1, 0);
        Check.due("as it first comes: 13 at 0", y.storm(0, 1), 0);
        y.write(0, 0, 0);
        Check.due("13 at 2", y.storm(0, 1), 2);
    }

    private static void imagesNone() {
        Check.promise("53 IMAGES (none at first)");
        CoasterDay x = new CoasterDay();
        Check.due("0", x.restore(0), -5);
        Check.due("1", x.restore(1), -5);
        Check.due("2", x.restore(2), -2);
        Check.due("-1", x.restore(-1), -2);
        Check.due("image of 2", x.image(2), -2);
        Check.due("image of -1", x.image(-1), -2);
        x.image(1);
        Check.due("0 is none still", x.restore(0), -5);
        Check.due("1 is one", x.restore(1), 0);
        x.image(0);
        Check.due("0 is one, too", x.restore(0), 0);
    }

    private static void imagesTwo() {
        Check.promise("52, 53 IMAGES 0 to 1");
        CoasterDay x = Check.on(DIP);
        x.image(0);
        Check.tell(x, 0, "high 1 2;");
        x.image(1);
        x.stair(0);
        x.restore(0);
        Check.due("0", x.count(0), 5);
        x.restore(1);
        Check.due("1", x.count(0), 2);
        Check.due("no STAIR", x.count(8), 0);
        x.restore(0);
        Check.due("0 again", x.count(0), 5);
        x.stair(4);
        x.image(0);
        x.restore(1);
        x.restore(0);
        Check.due("in place of another one", x.count(8), 1);
        x.restore(1);
        x.restore(1);
        Check.due("twice", x.count(0), 2);
    }

    private static void imageOfNothing() {
        Check.promise("53 an IMAGE of nothing");
        CoasterDay x = new CoasterDay();
        x.image(0);
        Check.tell(x, 0, "high 0 9 0;chain 0 to 1 speed 2;");
        Check.tell(x, 1, "leave 0 if free 0;");
        x.log(0, 1, 1, 0);
        x.stair(0);
        x.test(1, 1);
        x.part(1, 1);
        x.group(1, 50);
        x.stay(0, 0, 0, 0);
        x.grow(1, 1, 0);
        x.operator(1, 0, 23);
        x.lift(0, 1, 1);
        Check.due("restore", x.restore(0), 0);
        for (int what = 0; what <= 15; what++) {
            Check.due("count(" + what + ")", x.count(what), 0);
        }
        Check.due("no TRACK", x.point(9, 0), -5);
        Check.due("no chain", x.lift(0, 1, 1), -2);
        Check.due("no PARTS", x.first(1), -5);
        Check.due("no CONTROLLER without a TRACK", x.text(1, 0), -5);
        Check.tell(x, 0, "high 0 9 0;chain 0 to 1 speed 2;");
        Check.due("no STRETCH", x.lift(0, 1, 1), 1);
        Check.due("by any WEIGHT", x.grow(20, 1, 0), 1);
    }

    private static void imageBut() {
        Check.promise("53 all but THE TAPE, the FAULT and ROWS");
        CoasterDay x = Check.on(DIP);
        x.store(0, 0, 3);
        x.write(0, 2, 50);
        x.feed(0, 0, 0, 0, 0);
        x.image(0);
        Check.due("THE TAPE as the IMAGE was made", x.text(0, 20), -11);
        Check.faulty(x, 0, "high 1 2;A", 1, 9);
        Check.feed(x, "high 3 4 5;");
        x.store(0, 3, 5);
        x.write(0, 4, 60);
        x.store(1, 0, 0);
        x.restore(0);
        Check.due("THE TAPE", x.count(11), 20);
        Check.due("the FAULT", x.fault(0), 1);
        Check.due("its place", x.fault(1), 9);
        Check.due("the ROW", x.storm(0, 1), 4);
        Check.due("the other ROW", x.write(1, 0, 1), -7);
        Check.due("what is on THE TAPE", x.text(0, 11), 3);
        x.restore(0);
        Check.due("THE TAPE is empty", x.count(11), 0);
        Check.due("no FAULT", x.fault(0), 0);
    }

    private static void counts() {
        Check.promise("54 count (0 to 6 are 0 without a TRACK). NONE for others");
        CoasterDay x = new CoasterDay();
        for (int what : new int[] {-1, 16, Integer.MIN_VALUE, Integer.MAX_VALUE}) {
            Check.due("count(" + what + ")", x.count(what), -1);
        }
        Check.faulty(x, 0, "high 1 2;block 1;chain 0 to 1 speed 1;dog 0 to 1;drag 7;push 8;A", 1, 63);
        for (int what = 0; what <= 6; what++) {
            Check.due("count(" + what + ") without a TRACK", x.count(what), 0);
        }
        Check.tell(x, 0, "high 1 2;block 1;chain 0 to 1 speed 1;dog 0 to 1;drag 7;push 8;");
        int[] due = {2, 2, 1, 1, 7, 8, 0};
        for (int what = 0; what <= 6; what++) {
            Check.due("count(" + what + ")", x.count(what), due[what]);
        }
    }
}
