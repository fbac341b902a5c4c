/** The boundaries of what a day brings (promises 16 to 27, 30 to 43), a sentence of the document each. */
public final class EdgesDayTest {
    private static final String TWO = "high 0 0 0;push 20;drag 0;block 1;";
    private static final String FLAT60 = "high" + " 5".repeat(60) + ";drag 0;";

    public static void main(String[] args) {
        logOf12();
        fitsOff();
        pairs();
        wornOfAll();
        sixStairs();
        walkByFive();
        walkOfNone();
        worstAndBest();
        tenTests();
        coverNothing();
        eightParts();
        agePast();
        daysLeft();
        firstOfNone();
        tenGroups();
        groupTooLarge();
        ridesAtHeight();
        nearWithin();
        clearBeats();
        twentyStays();
        moreThanHalf();
        quietHours();
        twentyEntries();
        allGrowths();
        growsByTenths();
        foretoldDays();
        eightOperators();
        hoursBothToo();
        keysOfAll();
        Check.end();
    }

    // ---- LOG

    private static void logOf12() {
        Check.promise("16 LOG, at most 12");
        CoasterDay x = Check.on(TWO);
        Check.due("none at first", x.count(7), 0);
        for (int k = 1; k <= 12; k++) {
            Check.due("the " + k + "th", x.log(3, 20, 99999, 99), k);
        }
        Check.due("a 13th", x.log(0, 1, 1, 0), -4);
        Check.due("a 13th of no TRAIN", x.log(4, 0, 0, 0), -2);
        Check.due("a 13th of no WEIGHT", x.log(0, 0, 1, 0), -3);
        Check.due("12", x.count(7), 12);
        Check.tell(x, 0, TWO);
        Check.due("none with a new TRACK", x.count(7), 0);
        Check.due("the first again", x.log(0, 1, 1, 0), 1);
    }

    /** Each RUN by drag 0 has 22 TICKS, none is OUT by another drag that has a LOSS. */
    private static void fitsOff() {
        Check.promise("16, 17 how far off they may be (0 to 99)");
        int[][] due = {{22, 0, 5}, {21, 0, 0}, {23, 0, 0}, {21, 1, 5}, {23, 1, 5}, {20, 1, 0}, {24, 1, 0}, {121, 99, 5}, {122, 99, 0}, {1, 21, 5}, {1, 20, 0}};
        for (int[] d : due) {
            CoasterDay x = Check.on("high 5 5 5;drag 0;");
            x.log(0, 1, d[0], d[1]);
            // By 1 drag 1 is LOSS 10 already: drag 0 with none or another TRAIN worn.
            Check.due(d[0] + " off by " + d[1], x.fits(-1), d[2] == 0 ? 0 : 4);
        }
        CoasterDay out = Check.on("high 0 9;drag 0;");
        out.log(0, 1, 1, 99);
        Check.due("it must be OUT", out.fits(-1), 0);
    }

    private static void pairs() {
        Check.promise("17 a PAIR: a drag (0 to 50), none, 0, .. 3; for that one drag is 10 more");
        CoasterDay x = Check.on(TWO);
        Check.due("of no LOG all", x.fits(-1), 255);
        Check.due("the first", x.fits(0), 0);
        Check.due("none, 0, .. 3", x.fits(4), 4);
        Check.due("the next drag", x.fits(5), 10);
        Check.due("the last", x.fits(254), 504);
        Check.due("behind", x.fits(255), -1);
        Check.due("below NONE", x.fits(-2), -1);
        Check.due("far below", x.fits(Integer.MIN_VALUE), -1);
        // By 20 SPEED is push less half of drag: 30 less 30 is 0, for 60 alone: drag 50 and the worn one.
        CoasterDay y = Check.on("high 5 5;push 30;");
        y.log(2, 20, 11, 0);
        Check.due("60 and 61", y.fits(-1), 1);
        Check.due("drag 50, TRAIN 2 worn", y.fits(0), 503);
        Check.due("worn", y.worn(), 2);
        // By 10 LOSS 9 would be a drag 1 below 0 and 10 more for the worn one; by 20 there is no LOSS then.
        CoasterDay low = Check.on("high 5 5;push 9;");
        low.log(2, 10, 11, 0);
        low.log(0, 20, 4, 0);
        Check.due("no drag is below 0", low.fits(-1), 0);
        Check.due("nor is one worn by it", low.worn(), -1);
        CoasterDay z = Check.on("high 5 5;push 999;");
        z.log(3, 1, 1, 0);
        Check.due("all that are fast enough", z.fits(-1), 255);
    }

    private static void wornOfAll() {
        Check.promise("18 by all PAIRS that FIT (9: by all none); NONE: otherwise, or none FITS");
        for (int train = 0; train < 4; train++) {
            CoasterDay x = Check.on("high 5 5;push 30;");
            x.log(train, 20, 11, 0);
            Check.due("TRAIN " + train, x.worn(), train);
        }
        CoasterDay none = Check.on("high 5 5;push 25;");
        for (int train = 0; train < 4; train++) {
            Check.due("behind " + train + " of four", none.worn(), -1);
            none.log(train, 20, 11, 0);
        }
        Check.due("none is worn", none.worn(), 9);
        none.log(0, 20, 1, 0);
        Check.due("none FITS", none.worn(), -1);
        Check.due("without a LOG", Check.on(TWO).worn(), -1);
    }

    // ---- STAIRS

    private static void sixStairs() {
        Check.promise("19 STAIRS, at most 6 POINTS; -3: there is one");
        CoasterDay x = Check.on("high 1 2 3 4 5 6 7 8;");
        int[] points = {0, 7, 3, 4, 1, 6};
        for (int k = 0; k < points.length; k++) {
            Check.due("POINT " + points[k], x.stair(points[k]), k + 1);
            Check.due("again", x.stair(points[k]), -3);
        }
        Check.due("a 7th", x.stair(2), -4);
        Check.due("there is one, though they are 6", x.stair(7), -3);
        Check.due("no POINT, though they are 6", x.stair(8), -2);
        Check.due("6", x.count(8), 6);
        CoasterDay y = Check.on("high 1 2;");
        y.stair(1);
        y.stair(0);
        Check.due("each POINT has one", y.worst(0), 0);
        Check.tell(y, 0, "high 1 2;");
        Check.due("none with a new TRACK", y.worst(0), -1);
        Check.due("the first again", y.stair(1), 1);
    }

    private static void walkByFive() {
        Check.promise("20 POINTS between and the difference of heights by 5, cut, together");
        CoasterDay x = Check.on("high 0 4 5 9 10 99;");
        x.stair(0);
        int[] due = {0, 1, 3, 4, 6, 24};
        for (int p = 0; p < due.length; p++) {
            Check.due("from " + p, x.walk(p, 0), due[p]);
        }
        CoasterDay y = Check.on("high 99 95 94;");
        y.stair(0);
        Check.due("down by 4", y.walk(1, 0), 1);
        Check.due("down by 5", y.walk(2, 0), 3);
        CoasterDay z = Check.on(FLAT60);
        z.stair(59);
        Check.due("59 POINTS", z.walk(0, 0), 59);
    }

    private static void walkOfNone() {
        Check.promise("20 NONE: no STAIRS; the POINT of the STAIR, the least");
        CoasterDay x = Check.on("high 5 5 5 5 5;");
        Check.due("how far", x.walk(2, 0), -1);
        Check.due("where to", x.walk(2, 1), -1);
        x.stair(4);
        Check.due("the only one", x.walk(0, 1), 4);
        Check.due("where 0 is as near, but has none", x.walk(2, 1), 4);
        x.stair(0);
        Check.due("of like ones the least, told later", x.walk(2, 1), 0);
        Check.due("the nearer one", x.walk(3, 1), 4);
        Check.due("itself", x.walk(4, 1), 4);
    }

    private static void worstAndBest() {
        Check.promise("21 WORST (NONE: no STAIRS), BEST: the first such");
        CoasterDay x = Check.on(FLAT60);
        Check.due("WORST of none", x.worst(0), -1);
        Check.due("BEST: 29 and 30 leave 30", x.worst(1), 29);
        x.stair(0);
        Check.due("WORST", x.worst(0), 59);
        // With p it is half of p, cut, ahead of p, and 59 less p behind it: 19 and 20 by 39, 20 and 19 by 40.
        Check.due("BEST", x.worst(1), 39);
        x.stair(59);
        Check.due("WORST", x.worst(0), 29);
        CoasterDay two = Check.on("high 0 0;");
        Check.due("of two POINTS the first", two.worst(1), 0);
        two.stair(1);
        Check.due("WORST", two.worst(0), 1);
        Check.due("BEST", two.worst(1), 0);
        CoasterDay fewer = Check.on("high 0 0 50;");
        Check.tell(fewer, 0, "high 99 0;");
        Check.due("BEST: no POINT behind the last one, though there was one", fewer.worst(1), 0);
        CoasterDay last = Check.on("high 0 99;");
        last.stair(0);
        Check.due("BEST: the last POINT", last.worst(1), 1);
    }

    // ---- TESTS, PARTS

    private static void tenTests() {
        Check.promise("22 TESTS, at most 10: bits 0 to 11, a cost (1 to 99)");
        CoasterDay x = new CoasterDay();
        for (int k = 0; k < 10; k++) {
            Check.due("number " + k, x.test(k == 9 ? 2048 : 1 << k, 99), k);
        }
        Check.due("an 11th", x.test(1, 1), -4);
        Check.due("a wrong 11th", x.test(4096, 1), -3);
        Check.due("the last bit by the last TEST", x.cover(2048, 1), 512);
        Check.due("all ten", x.cover(2048 + 511, 1), 1023);
        Check.due("their cost", x.cover(2048 + 511, 0), 990);
        Check.due("bits of none", x.cover(4095, 0), -1);
        Check.due("set 4096", x.cover(4096, 0), -3);
        Check.due("set -1", x.cover(-1, 0), -3);
        CoasterDay y = new CoasterDay();
        y.test(4095, 99);
        Check.due("all bits", y.cover(4095, 0), 99);
        y.test(4094, 1);
        Check.due("all but one", y.cover(4095, 0), 99);
        y.test(1, 97);
        Check.due("98 by two", y.cover(4095, 1), 6);
        y.test(1, 98);
        Check.due("98 still", y.cover(4095, 0), 98);
    }

    private static void coverNothing() {
        Check.promise("23 COVER: the least cost; of like ones the fewest, then the least set");
        CoasterDay x = new CoasterDay();
        Check.due("of nothing by nothing", x.cover(0, 0), 0);
        Check.due("of nothing by nothing", x.cover(0, 1), 0);
        Check.due("of a bit by nothing", x.cover(2048, 1), -1);
        x.test(0, 1);
        Check.due("what covers nothing isn't taken", x.cover(0, 1), 0);
        Check.due("nor does it cover a bit", x.cover(1, 0), -1);
        x.test(1, 1);
        x.test(2, 1);
        x.test(3, 2);
        Check.due("one at 2, not two at 1", x.cover(3, 1), 8);
        x.test(3, 2);
        Check.due("the first of two alike", x.cover(3, 1), 8);
        x.test(3, 1);
        Check.due("the least cost", x.cover(3, 1), 32);
    }

    private static void eightParts() {
        Check.promise("24 PARTS, at most 8: HOURS so far (0 to 9999), how many each may have (1 to 9999)");
        CoasterDay x = new CoasterDay();
        int[][] parts = {{0, 1}, {9999, 1}, {0, 9999}, {9999, 9999}, {1, 2}, {0, 24}, {0, 23}, {5, 4}};
        int[] due = {1, 0, 9999, 0, 1, 24, 23, 0};
        for (int k = 0; k < 8; k++) {
            Check.due("number " + k, x.part(parts[k][0], parts[k][1]), k);
        }
        Check.due("a 9th", x.part(0, 1), -4);
        Check.due("a wrong 9th", x.part(0, 0), -3);
        for (int k = 0; k < 8; k++) {
            Check.due("DAYS of " + k, x.days(k, 1), due[k]);
        }
        Check.due("PART 8", x.days(8, 1), -2);
        Check.due("PART -1", x.days(-1, 1), -2);
    }

    private static void agePast() {
        Check.promise("25 age: so many HOURS more (1 to 9999); more than they may");
        CoasterDay x = new CoasterDay();
        Check.due("no PARTS", x.age(9999), 0);
        x.part(0, 2);
        x.part(1, 2);
        Check.due("as many as they may", x.age(1), 0);
        Check.due("one more", x.age(1), 1);
        Check.due("two more", x.age(1), 2);
        for (int k = 0; k < 300; k++) {
            x.age(9999);
        }
        Check.due("HOURS go on above 9999", x.days(0, 1), 0);
        Check.due("and on", x.age(1), 2);
    }

    private static void daysLeft() {
        Check.promise("26 by so many HOURS a day (1 to 24); 0, if it has them already");
        CoasterDay x = new CoasterDay();
        x.part(76, 100);
        Check.due("24 by 24", x.days(0, 24), 1);
        Check.due("24 by 23", x.days(0, 23), 1);
        Check.due("24 by 12", x.days(0, 12), 2);
        Check.due("24 by 1", x.days(0, 1), 24);
        x.age(1);
        Check.due("23 by 24", x.days(0, 24), 0);
        x.age(22);
        Check.due("1 by 1", x.days(0, 1), 1);
        x.age(1);
        Check.due("it has them", x.days(0, 1), 0);
        x.age(1);
        Check.due("it has more", x.days(0, 1), 0);
        x.age(30);
        Check.due("it has many more", x.days(0, 24), 0);
        Check.due("by 0", x.days(0, 0), -3);
        Check.due("by 25", x.days(0, 25), -3);
    }

    private static void firstOfNone() {
        Check.promise("27 FIRST: the fewest, the least number; -5: there are no PARTS");
        CoasterDay x = new CoasterDay();
        Check.due("none", x.first(1), -5);
        Check.due("none, wrong HOURS", x.first(0), -3);
        Check.due("none, wrong HOURS", x.first(25), -3);
        x.part(0, 9999);
        Check.due("one", x.first(24), 0);
        for (int k = 1; k < 7; k++) {
            x.part(0, 9999);
        }
        Check.due("all alike", x.first(24), 0);
        x.part(0, 9998);
        Check.due("the last by 1", x.first(1), 7);
        Check.due("alike in whole days of 24", x.first(24), 0);
    }

    // ---- GROUPS

    private static void tenGroups() {
        Check.promise("30, 31 GROUPS, at most 10: a size (1 to 8), a HEIGHT (50 to 220); seats 1 to 40");
        CoasterDay x = new CoasterDay();
        Check.due("nobody", x.trains(1, 50, -1), 0);
        Check.due("no TRAIN", x.trains(1, 50, 0), -1);
        for (int k = 0; k < 10; k++) {
            Check.due("number " + k, x.group(8, k == 0 ? 50 : 220), k);
        }
        Check.due("an 11th", x.group(1, 50), -4);
        Check.due("a wrong 11th", x.group(9, 50), -3);
        Check.due("80 by 40", x.trains(40, 50, -1), 2);
        Check.due("the first five", x.trains(40, 50, 0), 31);
        Check.due("the last five", x.trains(40, 50, 1), 992);
        Check.due("80 by 39", x.trains(39, 50, -1), 3);
        Check.due("80 by 8", x.trains(8, 50, -1), 10);
        Check.due("the last", x.trains(8, 50, 9), 512);
        Check.due("behind", x.trains(8, 50, 10), -1);
        Check.due("below NONE", x.trains(8, 50, -2), -1);
        Check.due("far below", x.trains(8, 50, Integer.MIN_VALUE), -1);
        Check.due("72 by 40", x.trains(40, 51, -1), 2);
        Check.due("0 doesn't ride", x.trains(40, 220, 0), 30);
    }

    private static void groupTooLarge() {
        Check.promise("31 each GROUP whole in one TRAIN; NONE: a GROUP that rides is too large");
        CoasterDay x = new CoasterDay();
        x.group(1, 60);
        Check.due("1 by 1", x.trains(1, 60, -1), 1);
        x.group(8, 70);
        Check.due("8 by 8", x.trains(8, 60, -1), 2);
        Check.due("8 by 7", x.trains(7, 60, -1), -1);
        Check.due("8 by 7, a TRAIN", x.trains(7, 60, 0), -1);
        Check.due("8 by 9", x.trains(9, 60, 0), 3);
        x.group(2, 100);
        Check.due("it doesn't ride", x.trains(7, 71, -1), 1);
        Check.due("2 by 2", x.trains(2, 71, 0), 4);
        Check.due("2 by 1", x.trains(1, 71, 0), -1);
        Check.due("nobody rides", x.trains(1, 101, -1), 0);
    }

    private static void ridesAtHeight() {
        Check.promise("31 those whose HEIGHT isn't below one that is told RIDE");
        CoasterDay x = new CoasterDay();
        x.group(1, 50);
        x.group(1, 119);
        x.group(1, 120);
        x.group(1, 121);
        x.group(1, 220);
        Check.due("50", x.trains(40, 50, 0), 31);
        Check.due("51", x.trains(40, 51, 0), 30);
        Check.due("120", x.trains(40, 120, 0), 28);
        Check.due("121", x.trains(40, 121, 0), 24);
        Check.due("122", x.trains(40, 122, 0), 16);
        Check.due("220", x.trains(40, 220, 0), 16);
        Check.due("49", x.trains(40, 49, 0), -3);
        Check.due("221", x.trains(40, 221, 0), -3);
    }

    // ---- CROSSING

    private static void nearWithin() {
        Check.promise("32 NEAR: within so many TICKS (0 to 99) of one of the others: first, first and every, ..");
        CoasterDay x = Check.on(TWO);
        Check.due("at first itself", x.cross(1, 0, 1, 1, 0, 999, 0), 1);
        Check.due("1 ahead of the first", x.cross(1, 0, 1, 1, 1, 999, 0), 0);
        Check.due("1 ahead of the first, within 1", x.cross(1, 0, 1, 1, 1, 999, 1), 1);
        Check.due("99 ahead of the first, within 99", x.cross(1, 0, 1, 1, 99, 999, 99), 1);
        Check.due("100 ahead of the first, within 99", x.cross(1, 0, 1, 1, 100, 999, 99), 0);
        Check.due("999 ahead of the first", x.cross(1, 0, 1, 1, 999, 1, 99), 0);
        // The second TRAIN comes at BEAT; others at 10, 30, 50, ..
        int[][] due = {{9, 0, 0}, {10, 0, 1}, {11, 0, 0}, {11, 1, 1}, {19, 9, 1}, {20, 9, 0}, {20, 10, 2}, {21, 9, 1}, {29, 0, 0}, {30, 0, 1}, {990, 0, 1}, {999, 8, 0}, {999, 9, 1}};
        for (int[] d : due) {
            Check.due("at " + d[0] + " within " + d[1], x.cross(1, 0, 2, d[0], 10, 20, d[1]), d[2]);
        }
        Check.due("every 1 from 999 on: the last of ten", x.cross(1, 0, 10, 111, 999, 1, 0), 1);
        Check.due("ten at once near", x.cross(1, 0, 10, 1, 0, 1, 0), 10);
        Check.due("TICKS of its RUN: 2 to POINT 1", x.cross(1, 1, 1, 1, 2, 999, 0), 1);
        Check.due("it isn't at 0", x.cross(1, 1, 1, 1, 0, 999, 1), 0);
        CoasterDay far = Check.on("high 0 9 0;drag 0;");
        Check.due("it doesn't come there", far.cross(1, 1, 1, 1, 0, 1, 99), -1);
        Check.due("it is at 0", far.cross(1, 0, 1, 1, 0, 1, 0), 1);
        CoasterDay calm = Check.on("high 0 0;push 37;drag 0;");
        Check.due("no WIND, no COLD: by SPEED 37 at 1", calm.cross(1, 1, 1, 1, 1, 999, 0), 1);
    }

    private static void clearBeats() {
        Check.promise("33 the least BEAT with which none is NEAR; NONE: none to 999");
        CoasterDay x = Check.on(TWO);
        Check.due("one TRAIN", x.clear(1, 0, 1, 1, 999, 0), 1);
        Check.due("the first one is NEAR", x.clear(1, 0, 1, 0, 999, 0), -1);
        Check.due("the first one is NEAR within 99", x.clear(1, 0, 1, 99, 999, 99), -1);
        Check.due("100 off", x.clear(1, 0, 1, 100, 999, 99), 1);
        // Others at 100, 300, ..: each further TRAIN must be there 100 off from both, at 200, 400, ..
        Check.due("200", x.clear(1, 0, 10, 100, 200, 99), 200);
        Check.due("every 198 leaves none", x.clear(1, 0, 10, 100, 198, 99), -1);
        Check.due("far ahead of the first one", x.clear(1, 0, 10, 900, 999, 99), 1);
        Check.due("all from 11 on, within 1", x.clear(1, 0, 10, 11, 1, 1), 1);
        Check.due("all from 10 on, within 1", x.clear(1, 0, 10, 10, 1, 1), -1);
        Check.due("all from 9 on", x.clear(1, 0, 10, 9, 1, 0), -1);
        Check.due("all from 10 on", x.clear(1, 0, 10, 10, 1, 0), 1);
        Check.due("even ones", x.clear(1, 0, 2, 1, 2, 0), 2);
        CoasterDay last = Check.on("high 0 0;push 36;drag 0;");
        Check.due("it comes there at 2", last.clear(1, 1, 2, 1, 2, 0), 2);
        Check.due("it comes there at 2, and is NEAR", last.clear(1, 1, 2, 2, 2, 0), -1);
        CoasterDay calm = Check.on("high 0 0;push 37;drag 0;");
        Check.due("no WIND, no COLD: it comes there at 1", calm.clear(1, 1, 2, 2, 2, 0), 2);
        Check.due("no WIND, no COLD: it comes there at 1, and is NEAR", calm.clear(1, 1, 2, 1, 2, 0), -1);
        CoasterDay far = Check.on("high 0 9 0;drag 0;");
        Check.due("it doesn't come there", far.clear(1, 1, 1, 999, 999, 0), -1);
    }

    // ---- STAYS

    private static void twentyStays() {
        Check.promise("34 STAYS, at most 20: a TRAIN (0 to 3), a BLOCK, an HOUR (0 to 9999), WIND");
        CoasterDay x = Check.on(TWO);
        Check.due("none of them", x.led(0, 1), -2);
        for (int k = 0; k < 20; k++) {
            Check.due("number " + k, x.stay(k % 4, k % 2, k == 0 ? 0 : 9999, k == 0 ? 0 : 99), k);
        }
        Check.due("a 21st", x.stay(0, 0, 0, 0), -4);
        Check.due("a 21st of no TRAIN", x.stay(4, 0, 0, 0), -2);
        Check.due("a 21st at no HOUR", x.stay(0, 0, 10000, 0), -3);
        Check.due("the last", x.led(19, 1), 1);
        Check.due("behind", x.led(20, 1), -2);
        Check.due("below", x.led(-1, 1), -2);
        Check.due("20", x.count(13), 20);
        Check.tell(x, 0, TWO);
        Check.due("none with a new TRACK", x.count(13), 0);
        Check.due("QUIET of none", x.quiet(), -1);
        Check.due("the first again", x.stay(0, 0, 0, 0), 0);
    }

    /** By 1 it is OUT in WIND to 5 (LOSS 10, and 10 again), not in 6. */
    private static void moreThanHalf() {
        Check.promise("35, 36 if more than half of all STAYS are that TRAIN's (2), there (3)");
        CoasterDay x = Check.on(TWO);
        x.stay(0, 0, 0, 5);
        Check.due("one of one", x.led(0, 1), 2);
        x.stay(1, 0, 0, 6);
        Check.due("one of two; both are there", x.led(0, 1), 3);
        Check.due("WIND comes first", x.led(1, 1), 1);
        Check.due("by 2 it is OUT", x.led(1, 2), 3);
        x.stay(1, 1, 0, 0);
        Check.due("two of three", x.led(2, 1), 2);
        Check.due("one of three; two are there", x.led(0, 1), 3);
        x.stay(2, 1, 0, 0);
        Check.due("two of four; two of four", x.led(2, 1), 0);
        CoasterDay y = Check.on(TWO);
        for (int k = 0; k < 20; k++) {
            y.stay(k < 10 ? 0 : 1 + k % 3, k % 2, 0, 0);
        }
        Check.due("10 of 20", y.led(0, 1), 0);
        Check.due("all to nothing", y.leads(0, 1), 20);
        CoasterDay z = Check.on(TWO);
        for (int k = 0; k < 20; k++) {
            z.stay(k < 11 ? 0 : 1 + k % 3, k % 2, 0, 0);
        }
        Check.due("11 of 20", z.led(0, 1), 2);
        Check.due("11 to their TRAIN", z.leads(2, 1), 11);
        Check.due("9 to nothing", z.leads(0, 1), 9);
        Check.due("none to WIND", z.leads(1, 1), 0);
        Check.due("none to their BLOCK", z.leads(3, 1), 0);
        Check.due("to 4", z.leads(4, 1), -2);
        Check.due("of no STAYS", Check.on(TWO).leads(0, 1), 0);
    }

    private static void quietHours() {
        Check.promise("37 by HOURS (of like HOURS 0); NONE: no TRAIN has two");
        CoasterDay x = Check.on(TWO);
        Check.due("no STAYS", x.quiet(), -1);
        for (int train = 0; train < 4; train++) {
            x.stay(train, 0, 1000 * train, 0);
            Check.due("one each", x.quiet(), -1);
        }
        x.stay(3, 1, 3000, 0);
        Check.due("of like HOURS", x.quiet(), 0);
        x.stay(2, 1, 1999, 0);
        Check.due("1", x.quiet(), 1);
        x.stay(0, 1, 9999, 0);
        Check.due("from 0 to 9999", x.quiet(), 9999);
        x.stay(0, 1, 9999, 0);
        Check.due("twice at the last HOUR", x.quiet(), 9999);
        x.stay(0, 1, 5000, 0);
        Check.due("one between", x.quiet(), 5000);
    }

    // ---- GROWTH

    private static void twentyEntries() {
        Check.promise("38 ENTRIES, at most 20, all by one WEIGHT");
        CoasterDay x = Check.on(TWO);
        Check.due("none", x.growths(-1), -5);
        Check.due("none", x.foretold(0, true), -5);
        Check.due("none, a wrong DAY", x.foretold(100, true), -3);
        for (int k = 1; k <= 20; k++) {
            Check.due("the " + k + "th", x.grow(20, 99999, 99), k);
        }
        Check.due("a 21st", x.grow(20, 1, 0), -4);
        Check.due("a 21st by another WEIGHT", x.grow(19, 1, 0), -3);
        Check.due("20", x.count(14), 20);
        Check.tell(x, 0, TWO);
        Check.due("none with a new TRACK", x.growths(-1), -5);
        Check.due("by another WEIGHT then", x.grow(1, 1, 0), 1);
        Check.due("that is the first one's now", x.grow(20, 1, 0), -3);
    }

    private static void allGrowths() {
        Check.promise("39 a drag at first (0 to 50) and tenths a DAY (0 to 20); in order");
        CoasterDay x = Check.on("high 5 5;push 99;");
        for (int k = 0; k < 20; k++) {
            x.grow(20, 1, 0);
        }
        // On DAY 19 drag is 88 at most, LOSS 44: SPEED is 55 at least.
        Check.due("all", x.growths(-1), 1071);
        Check.due("the first", x.growths(0), 0);
        Check.due("20 tenths", x.growths(20), 20);
        Check.due("the next drag", x.growths(21), 100);
        Check.due("the last", x.growths(1070), 5020);
        Check.due("behind", x.growths(1071), -1);
        Check.due("below NONE", x.growths(-2), -1);
        Check.due("far below", x.growths(Integer.MIN_VALUE), -1);
    }

    /** By 10 LOSS is drag, and SPEED at the last POINT is 30 less drag. */
    private static void growsByTenths() {
        Check.promise("39 on DAY k drag is the first one and tenths times k by 10, cut");
        CoasterDay x = Check.on("high 5 5;push 30;");
        for (int k = 0; k < 9; k++) {
            x.grow(10, 20, 99);
        }
        Check.due("up to drag 30 on DAY 8", x.growths(0), 0);
        x.grow(10, 11, 0);
        Check.due("drag 30 on DAY 9: the first is 12 and 20 tenths", x.growths(0), 1220);
        Check.due("the last is 30 and 1 tenth", x.growths(x.growths(-1) - 1), 3001);
        x.grow(10, 11, 0);
        Check.due("drag 30 on DAY 10, too: without growth, or 30 with none", x.growths(0), 3000);
        Check.due("no other", x.growths(-1), 1);
        CoasterDay y = Check.on("high 5 5;push 50;");
        y.grow(10, 20, 99);
        Check.due("50 on DAY 0", y.growths(-1), 1071);
        Check.due("off to both sides", y.growths(1070), 5020);
        y.grow(10, 20, 99);
        Check.due("50 and 20 tenths is 52 on DAY 1", y.growths(1070), -1);
        Check.due("50 and 9 tenths is 50", y.growths(y.growths(-1) - 1), 5009);
    }

    private static void foretoldDays() {
        Check.promise("40 FORETOLD for a DAY (0 to 99): of GROWTHS that FIT and by which such a RUN is OUT then");
        CoasterDay x = Check.on("high 5 5;push 99;");
        x.grow(10, 1, 0);
        // LOSS is drag: on DAY 99 it is 49 and 198 at most, and 99 by 50 and 49 (5 tenths): SPEED 0, 11 TICKS.
        Check.due("DAY 0", x.foretold(0, true), 1);
        Check.due("DAY 99, the greatest", x.foretold(99, true), 11);
        Check.due("DAY 99, the least", x.foretold(99, false), 1);
        Check.due("DAY -1", x.foretold(-1, true), -3);
        Check.due("DAY 100", x.foretold(100, true), -3);
        CoasterDay low = Check.on("high 5 5;");
        low.grow(1, 3, 0);
        Check.due("no drag is below 0", low.growths(-1), 0);
        Check.due("nor is it foretold", low.foretold(0, true), -1);
        CoasterDay slow = Check.on("high 5 5;push 2;");
        slow.grow(10, 7, 0);
        Check.due("DAY 1 by 20 tenths: drag 2", slow.foretold(1, true), 11);
        Check.due("DAY 10 by no tenths: drag 0", slow.foretold(10, false), 7);
        CoasterDay y = Check.on("high 5 5;push 10;");
        y.grow(10, 11, 0);
        Check.due("drag 10, DAY 9: 10 by 0 or 1 tenth", y.foretold(9, true), 11);
        Check.due("DAY 99: without growth", y.foretold(99, true), 11);
        y.grow(10, 5, 0);
        Check.due("none FITS", y.foretold(0, true), -1);
        CoasterDay z = Check.on("high 5 5;push 10;");
        z.grow(10, 3, 0);
        Check.due("the least of drag 0 on DAY 0", z.foretold(0, false), 3);
        z.grow(10, 11, 0);
        Check.due("drag 10 on DAY 1: none began so", z.foretold(1, false), -1);
        CoasterDay w = Check.on("high 5 5;push 10;");
        w.grow(10, 5, 0);
        w.grow(10, 6, 0);
        Check.due("5 to 4 or 3 of SPEED", w.foretold(1, true), 6);
        Check.due("none is OUT by then", w.foretold(99, true), -1);
    }

    // ---- OPERATORS

    private static void eightOperators() {
        Check.promise("41 OPERATORS, at most 8: KEYS (0 to 63), HOURS (0 to 23 each)");
        CoasterDay x = Check.on(TWO);
        for (int k = 0; k < 8; k++) {
            Check.due("number " + k, x.operator(k == 7 ? 63 : 0, k == 1 ? 23 : 0, k == 2 ? 0 : 23), k);
        }
        Check.due("a 9th", x.operator(0, 0, 0), -4);
        Check.due("a wrong 9th", x.operator(64, 0, 0), -3);
        Check.due("the last has all KEYS", x.crew(0, 1), 128);
        Check.due("one of them", x.crew(23, 0), 1);
        Check.due("8", x.count(15), 8);
        Check.due("no HOUR is bare", x.bare(), 0);
    }

    private static void hoursBothToo() {
        Check.promise("41, 42 HOURS from one to one not below it (both too)");
        CoasterDay x = Check.on(TWO);
        Check.due("from 0 to 0", x.operator(3, 0, 0), 0);
        Check.due("from 23 to 23", x.operator(3, 23, 23), 1);
        Check.due("from 5 to 7", x.operator(3, 5, 7), 2);
        Check.due("from 8 to 7", x.operator(3, 8, 7), -3);
        int[] hours = {0, 1, 4, 5, 6, 7, 8, 22, 23};
        int[] due = {1, -1, -1, 4, 4, 4, -1, -1, 2};
        for (int k = 0; k < hours.length; k++) {
            Check.due("CREW at " + hours[k], x.crew(hours[k], 1), due[k]);
        }
        Check.due("bare", x.bare(), 0xFFFFFF & ~(1 | 1 << 23 | 7 << 5));
        Check.due("at -1", x.crew(-1, 1), -3);
        Check.due("at 24", x.crew(24, 1), -3);
    }

    private static void keysOfAll() {
        Check.promise("42 KEYS together are of all BLOCKS; of like ones the least set");
        CoasterDay x = Check.on("high 1 2 3 4 5 6;block 1;block 2;block 3;block 4;block 5;");
        Check.due("nobody", x.crew(0, 0), -1);
        Check.due("nobody", x.bare(), 0xFFFFFF);
        for (int b = 0; b < 5; b++) {
            x.operator(1 << b, 0, 23);
        }
        Check.due("five of six BLOCKS", x.crew(0, 0), -1);
        x.operator(32, 0, 22);
        Check.due("six of six", x.crew(22, 1), 63);
        Check.due("how many", x.crew(22, 0), 6);
        Check.due("not at 23", x.crew(23, 0), -1);
        Check.due("23 is bare", x.bare(), 1 << 23);
        x.operator(48, 0, 23);
        Check.due("the fewest", x.crew(22, 1), 79);
        x.operator(48, 0, 23);
        Check.due("of like ones the least set", x.crew(22, 1), 79);
        Check.tell(x, 0, "high 1 2;");
        Check.due("of one BLOCK: 0 alone", x.crew(0, 1), 1);
        Check.tell(x, 0, "high 1 2 3 4 5;block 1;block 2;block 3;block 4;");
        Check.due("of five BLOCKS", x.crew(23, 1), 31);
    }
}
