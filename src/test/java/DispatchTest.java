/** Promises 13 to 18: TIMES, HOLDS, LEAST BEAT, and the LOG. */
public final class DispatchTest {
    private static final String DIP = "high 10 5 0 5 10;drag 0;push 100;block 2;";
    /** SPEED 0 all along: 11 TICKS a STEP, so TIMES are 11, 33, 22. */
    private static final String SLOW = "high 5 5 5 5 5 5 5;drag 0;block 1;block 4;";
    private static final String STUCK = "high 0 1;drag 0;";

    public static void main(String[] args) {
        time();
        holds();
        holdsRefused();
        beat();
        log();
        fits();
        worn();
        Check.end();
    }

    private static void time() {
        Check.promise("13 time");
        CoasterDay x = Check.on(SLOW);
        Check.due("BLOCK 0", x.time(1, 0), 11);
        Check.due("BLOCK 1", x.time(1, 1), 33);
        Check.due("BLOCK 2", x.time(1, 2), 22);
        Check.due("a block at the last POINT", Check.on("high 5 5;drag 0;block 1;").time(1, 1), 0);
        Check.due("not OUT", Check.on(STUCK).time(1, 0), -1);
        // The chain pulls it to 2, where it turns; it rolls back to 1 and is pulled on again, for 300 STEPS.
        Check.due("no BLOCK of a RUN that isn't OUT", Check.on("high 0 9 9 99;chain 0 to 2 speed 9;block 1;").time(20, 0), -1);
        Check.due("BLOCK", x.time(0, 3), -2);
        Check.due("BLOCK", x.time(1, -1), -2);
        Check.due("WEIGHT", x.time(0, 2), -3);
        Check.due("WEIGHT", x.time(21, 2), -3);
    }

    private static void holds() {
        Check.promise("14 holds");
        CoasterDay x = Check.on(SLOW);
        // TRAIN 0 leaves at 11, 44, 66. TRAIN 1, 10 behind, waits ahead of BLOCK 0 to 11, is through at 22, held to 44.
        Check.due("one TRAIN", x.holds(1, 1, 1, -1, 0), 0);
        Check.due("two by 10", x.holds(1, 2, 10, -1, 0), 1);
        Check.due("two by 33", x.holds(1, 2, 33, -1, 0), 0);
        Check.due("two by 32", x.holds(1, 2, 32, -1, 0), 1);
        Check.due("two by 32, the second one late by 1", x.holds(1, 2, 32, 1, 1), 0);
        Check.due("two by 33, the first one late by 1", x.holds(1, 2, 33, 0, 1), 1);
        Check.due("ten by 32: each of nine once", x.holds(1, 10, 32, -1, 0), 9);
        // Behind a late one all are held till the lateness is used up: by 40 each is 7 off.
        Check.due("ten by 40, TRAIN 2 late by 20", x.holds(1, 10, 40, 2, 20), 2);
        Check.due("ten by 40, TRAIN 2 late by 999", x.holds(1, 10, 40, 2, 999), 7);
        Check.due("the last one is late", x.holds(1, 10, 40, 9, 999), 0);
        Check.due("late without one that is", x.holds(1, 10, 40, -1, 999), 0);
        Check.due("as the shared runs have it", Check.on(DIP).holds(1, 2, 1, -1, 0), 0);
        Check.due("one BLOCK: ahead of it isn't HELD UP", Check.on("high 5 5;drag 0;").holds(1, 10, 1, 0, 0), 0);
        Check.due("no TIMES", Check.on(STUCK).holds(1, 1, 1, -1, 0), -1);
    }

    private static void holdsRefused() {
        Check.promise("14 holds, refused");
        CoasterDay x = Check.on(SLOW);
        Check.due("which", x.holds(0, 2, 0, 2, -1), -2);
        Check.due("which", x.holds(1, 2, 1, -2, 0), -2);
        Check.due("which of no TRAINS", x.holds(1, 0, 1, 0, 0), -2);
        Check.due("which of far below no TRAINS", x.holds(1, Integer.MIN_VALUE, 1, 0, 0), -2);
        Check.due("which of 11 TRAINS", x.holds(1, 11, 1, 10, 0), -3);
        Check.due("n", x.holds(1, 0, 1, -1, 0), -3);
        Check.due("WEIGHT", x.holds(0, 1, 1, -1, 0), -3);
        Check.due("BEAT", x.holds(1, 1, 0, -1, 0), -3);
        Check.due("BEAT", x.holds(1, 1, 1000, -1, 0), -3);
        Check.due("LATE", x.holds(1, 1, 1, -1, -1), -3);
        Check.due("LATE", x.holds(1, 1, 1, -1, 1000), -3);
        Check.due("the bounds", x.holds(20, 10, 999, 9, 999), 0);
    }

    private static void beat() {
        Check.promise("15 beat");
        CoasterDay x = Check.on(SLOW);
        Check.due("none late", x.beat(1, 10, 0, 0), 33);
        Check.due("one late by 7", x.beat(1, 10, 7, 0), 40);
        Check.due("one hold is fine: the second one behind is in time by 40 and 40", x.beat(1, 10, 14, 1), 40);
        Check.due("nine are fine", x.beat(1, 10, 0, 9), 1);
        Check.due("eight aren't", x.beat(1, 10, 0, 8), 33);
        Check.due("two TRAINS late by 966", x.beat(1, 2, 966, 0), 999);
        Check.due("two TRAINS late by 967", x.beat(1, 2, 967, 0), -1);
        Check.due("one TRAIN", x.beat(1, 1, 999, 0), 1);
        Check.due("no TIMES", Check.on(STUCK).beat(1, 1, 0, 99), -1);
        Check.due("WEIGHT", x.beat(0, 1, 0, 0), -3);
        Check.due("n", x.beat(1, 0, 0, 0), -3);
        Check.due("n", x.beat(1, 11, 0, 0), -3);
        Check.due("late", x.beat(1, 1, -1, 0), -3);
        Check.due("late", x.beat(1, 1, 1000, 0), -3);
        Check.due("most", x.beat(1, 1, 0, -1), -3);
        Check.due("most", x.beat(1, 1, 0, 100), -3);
    }

    private static void log() {
        Check.promise("16 log");
        CoasterDay x = Check.on(DIP);
        Check.due("TRAIN", x.log(4, 0, 0, 0), -2);
        Check.due("TRAIN", x.log(-1, 1, 1, 0), -2);
        Check.due("WEIGHT", x.log(0, 0, 1, 0), -3);
        Check.due("WEIGHT", x.log(0, 21, 1, 0), -3);
        Check.due("TICKS", x.log(0, 1, 0, 0), -3);
        Check.due("TICKS", x.log(0, 1, 100000, 0), -3);
        Check.due("off", x.log(0, 1, 1, -1), -3);
        Check.due("off", x.log(0, 1, 1, 100), -3);
        Check.due("nothing so far", x.count(7), 0);
        for (int k = 1; k <= 12; k++) {
            Check.due("log " + k, x.log(k % 4, 20, k == 1 ? 99999 : 1, 99), k);
        }
        Check.due("a 13th", x.log(0, 1, 1, 0), -4);
        Check.due("a wrong 13th", x.log(0, 0, 1, 0), -3);
        Check.due("twelve", x.count(7), 12);
    }

    /** By 1 a RUN on DIP has 4 TICKS with drag 0 and 1, 5 with 2; it isn't OUT with 3. */
    private static void fits() {
        Check.promise("17 fits");
        CoasterDay x = Check.on(DIP);
        Check.due("all of them", x.fits(-1), 255);
        Check.due("the last one", x.fits(254), 504);
        Check.due("behind it", x.fits(255), -1);
        Check.due("below", x.fits(-2), -1);
        x.log(0, 1, 4, 0);
        int[] due = {0, 2, 3, 4, 10, 12, 13, 14};
        Check.due("those in which 0 isn't worn", x.fits(-1), due.length);
        for (int i = 0; i < due.length; i++) {
            Check.due("fits(" + i + ")", x.fits(i), due[i]);
        }
        Check.due("fits behind", x.fits(8), -1);
        CoasterDay y = Check.on(DIP);
        y.log(0, 1, 6, 1);
        Check.due("off by one, from above", y.fits(-1), 4);
        Check.due("drag 2", y.fits(0), 20);
        CoasterDay z = Check.on(DIP);
        z.log(0, 1, 3, 2);
        Check.due("off by two, from below", z.fits(-1), 12);
        z.log(0, 1, 1, 2);
        Check.due("none fits both", z.fits(-1), 0);
        // By 20 LOSS is 25 with drag 50 and 51 alone: SPEED 0 of push 25.
        CoasterDay w = Check.on("high 5 5;push 25;");
        w.log(0, 20, 11, 0);
        int[] worn = {401, 411, 500, 502, 503, 504};
        Check.due("40 or 41 and 10 for the worn one, or 50", w.fits(-1), worn.length);
        for (int i = 0; i < worn.length; i++) {
            Check.due("fits(" + i + ")", w.fits(i), worn[i]);
        }
        Check.due("nor a first one", z.fits(0), -1);
    }

    private static void worn() {
        Check.promise("18 worn");
        // 10 times drag by 10 is LOSS on a flat track: SPEED 30 of push is less by it each STEP.
        CoasterDay x = Check.on("high 5 5 5;push 30;drag 0;");
        Check.due("all fit", x.worn(), -1);
        int fresh = ticks(30 - 5, 30 - 10);
        int old = ticks(30 - 15, 0);
        x.log(0, 10, fresh, 0);
        x.log(2, 10, old, 0);
        Check.due("TRAIN 2", x.worn(), 2);
        for (int i = 0; i < x.fits(-1); i++) {
            Check.due("each PAIR tells 2", x.fits(i) % 10, 3);
        }
        CoasterDay y = Check.on("high 5 5 5;push 30;drag 0;");
        for (int train = 0; train < 4; train++) {
            y.log(train, 10, fresh, 0);
        }
        Check.due("none", y.worn(), 9);
        y.log(0, 10, 99999, 0);
        Check.due("none FITS", y.worn(), -1);
        CoasterDay z = Check.on("high 5 5 5;push 30;drag 0;");
        z.log(0, 10, fresh, 0);
        Check.due("they tell otherwise", z.worn(), -1);
        CoasterDay last = Check.on("high 5 5;push 25;");
        last.log(0, 20, 11, 0);
        last.log(1, 20, 11, 0);
        Check.due("drag 50, none or 2 or 3", last.worn(), -1);
        last.log(2, 20, 11, 0);
        last.log(3, 20, 11, 0);
        Check.due("drag 50, none", last.worn(), 9);
        CoasterDay first = Check.on("high 5 5;push 10;");
        first.log(3, 10, 11, 0);
        first.log(1, 10, 3, 0);
        Check.due("drag 0 with TRAIN 3 worn alone", first.worn(), 3);
    }

    private static int ticks(int first, int second) {
        return 1 + 40 / (4 + first) + 1 + 40 / (4 + second);
    }
}
