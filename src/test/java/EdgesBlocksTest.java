/** The boundaries of BLOCKS, of CRASH and STOP, and of DISPATCH (promises 11 to 15, 47), a sentence of the document each. */
public final class EdgesBlocksTest {
    private static final String ONE = "high 1 2 3;";
    private static final String TWO = "high 1 2 3;block 1;";
    private static final String SIX = "high 1 2 3 4 5 6;block 1;block 2;block 3;block 4;block 5;";
    /** SPEED 0 all along: 11 TICKS a STEP, so TIMES are 11, 33, 22. */
    private static final String SLOW = "high 5 5 5 5 5 5 5;drag 0;block 1;block 4;";
    private static final String STUCK = "high 0 1;drag 0;block 1;";

    public static void main(String[] args) {
        oneBlock();
        ringOfTwo();
        ringOfSix();
        noTrain();
        oneTrain();
        fullRing();
        liesUpTo3();
        eventsOfBlock5();
        lieOfWhatIs();
        rowsNumbers();
        rulesOfOthers();
        times();
        noTimes();
        oneToTenTrains();
        late();
        heldAheadOfBlock0();
        lastBlock();
        leastBeat();
        mostHolds();
        riders();
        Check.end();
    }

    private static void told(String name, CoasterDay x, int what, int trains, int lies, int... due) {
        Check.due(name + ", length", x.row(what, trains, lies, -1), due.length);
        for (int i = 0; i < due.length; i++) {
            Check.due(name + ", EVENT " + i, x.row(what, trains, lies, i), due[i]);
        }
        Check.due(name + ", behind", x.row(what, trains, lies, due.length), -1);
    }

    private static void none(String name, CoasterDay x, int what, int trains, int lies) {
        Check.due(name, x.row(what, trains, lies, -1), -1);
        Check.due(name + ", the first EVENT", x.row(what, trains, lies, 0), -1);
    }

    private static void oneBlock() {
        Check.promise("11, 12 with one BLOCK alone nothing leaves it");
        CoasterDay x = Check.on(ONE);
        for (String rules : new String[] {"", "leave 0 if free 0;", "leave 0 if not free 0;", "leave 0 if free 0 or not free 0;"}) {
            Check.tell(x, 1, rules);
            Check.due(rules + " a TRAIN", x.leaves(1, 0), 0);
            Check.due(rules + " no TRAIN", x.leaves(0, 0), 0);
            for (int lies = 0; lies <= 3; lies++) {
                told(rules + " STOP", x, 1, 1, lies);
                none(rules + " CRASH", x, 0, 1, lies);
                none(rules + " STOP of none", x, 1, 0, lies);
                none(rules + " CRASH of none", x, 0, 0, lies);
            }
        }
        Check.due("bits of no BLOCKS", x.row(0, 2, 0, -1), -3);
        Check.due("bits of no BLOCKS", x.leaves(2, 0), -3);
        Check.due("no BLOCK", x.leaves(1, 1), -2);
    }

    private static void ringOfTwo() {
        Check.promise("12 behind the last one comes 0: two BLOCKS");
        CoasterDay x = Check.on(TWO);
        int[][] due = {{0, 0}, {1, 0}, {0, 1}, {0, 0}};
        for (int trains = 0; trains < 4; trains++) {
            Check.due("0 leaves of " + trains, x.leaves(trains, 0), due[trains][0]);
            Check.due("1 leaves of " + trains, x.leaves(trains, 1), due[trains][1]);
        }
        told("CRASH", x, 0, 3, 1, 10, 1);
        told("CRASH of the other one, where 1 never leaves", ruled(TWO, "leave 1 if free 0 and not free 0;"), 0, 3, 1, 11, 0);
    }

    private static CoasterDay ruled(String track, String rules) {
        CoasterDay x = Check.on(track);
        Check.tell(x, 1, rules);
        return x;
    }

    private static void ringOfSix() {
        Check.promise("12 behind the last one comes 0: six BLOCKS");
        CoasterDay x = Check.on(SIX);
        for (int b = 0; b < 6; b++) {
            int next = (b + 1) % 6;
            Check.due("the next one is free, of " + b, x.leaves(1 << b, b), 1);
            Check.due("the next one isn't, of " + b, x.leaves(1 << b | 1 << next, b), 0);
            Check.due("all others are free, of " + b, x.leaves(63 & ~(1 << next), b), 1);
            Check.due("none is in it, of " + b, x.leaves(63 & ~(1 << b), b), 0);
        }
        Check.due("BLOCK 6", x.leaves(63, 6), -2);
        Check.due("BLOCK -1", x.leaves(63, -1), -2);
        Check.due("bit 6", x.leaves(64, 0), -3);
        Check.due("all bits", x.leaves(-1, 0), -3);
    }

    private static void noTrain() {
        Check.promise("11 STOP: none, if there is no TRAIN");
        CoasterDay x = Check.on(SIX);
        CoasterDay never = ruled(TWO, "leave 0 if free 0 and not free 0;leave 1 if free 0 and not free 0;");
        for (int lies = 0; lies <= 3; lies++) {
            none("STOP", x, 1, 0, lies);
            none("CRASH", x, 0, 0, lies);
            none("STOP where none may leave", never, 1, 0, lies);
            told("STOP of a TRAIN where none may leave", never, 1, 2, lies);
        }
    }

    private static void oneTrain() {
        Check.promise("11 one TRAIN");
        CoasterDay x = Check.on(SIX);
        none("CRASH, three lies", x, 0, 1, 3);
        none("STOP, no lie", x, 1, 1, 0);
        told("STOP, a lie", x, 1, 1, 1, 21);
        CoasterDay back = ruled(SIX, "leave 5 if not free 5 and not free 4;");
        told("it goes on to where it may leave no more", back, 1, 1, 0, 0, 1, 2, 3, 4);
    }

    private static void fullRing() {
        Check.promise("11 a TRAIN in each BLOCK");
        CoasterDay x = Check.on(SIX);
        told("STOP", x, 1, 63, 0);
        told("STOP, three lies", x, 1, 63, 3);
        none("CRASH, no lie", x, 0, 63, 0);
        told("CRASH, a lie", x, 0, 63, 1, 10, 5);
        CoasterDay any = ruled(SIX, "leave 3 if not free 3;leave 2 if free 3 and not free 3;");
        told("CRASH at once", any, 0, 63, 0, 3);
        none("STOP: one may leave still", any, 1, 63, 0);
        told("STOP by a lie", any, 1, 63, 1, 13);
    }

    /** In a full ring 0 leaves if so many SENSORS lie free; all others never leave. */
    private static String lieRules(int many) {
        StringBuilder t = new StringBuilder("leave 0 if free 0");
        for (int b = 1; b < many; b++) {
            t.append(" and free ").append(b);
        }
        for (int b = 1; b < 6; b++) {
            t.append(";leave ").append(b).append(" if free 0 and not free 0");
        }
        return t.append(";").toString();
    }

    private static void liesUpTo3() {
        Check.promise("11 at most so many lies are made (0 to 3)");
        int[][] due = {{10, 0}, {10, 11, 0}, {10, 11, 12, 0}};
        for (int many = 1; many <= 3; many++) {
            CoasterDay x = ruled(SIX, lieRules(many));
            for (int lies = 0; lies < many; lies++) {
                none(many + " are needed, CRASH by " + lies, x, 0, 63, lies);
            }
            for (int lies = many; lies <= 3; lies++) {
                told(many + " are needed, CRASH by " + lies, x, 0, 63, lies, due[many - 1]);
            }
        }
        CoasterDay last = ruled(SIX, lieRules(1).replace("leave 0 if free 0;", "leave 0 if free 3 and free 4 and free 5;"));
        told("the last three", last, 0, 63, 3, 13, 14, 15, 0);
        none("the last three by 2", last, 0, 63, 2);
        CoasterDay x = ruled(SIX, lieRules(4));
        none("4 are needed", x, 0, 63, 3);
        Check.due("4 lies", x.row(0, 63, 4, -1), -3);
        Check.due("-1 lies", x.row(0, 63, -1, -1), -3);
        CoasterDay y = Check.on(SIX);
        told("three TRAINS stop by 3 lies", y, 1, 21, 3, 0, 23, 25);
        told("three TRAINS stop by 3 lies, a row shorter than by 2", y, 1, 42, 3, 1, 20, 24);
    }

    private static void eventsOfBlock5() {
        Check.promise("11 EVENTS: b, 10 and b, 20 and b (0 to 5)");
        CoasterDay x = Check.on(SIX);
        told("15 and 4", x, 0, 48, 1, 15, 4);
        told("10 and 5", x, 0, 33, 1, 10, 5);
        told("25", x, 1, 16, 1, 25);
        told("20", x, 1, 32, 1, 20);
        told("5 ahead of it", x, 0, 36, 1, 2, 3, 15, 4);
    }

    private static void lieOfWhatIs() {
        Check.promise("11 its SENSOR, which doesn't lie, shows so from now on");
        CoasterDay x = ruled(TWO, "leave 0 if free 1;leave 1 if not free 0;");
        told("no lie: 1 leaves where 0 isn't free", x, 0, 3, 0, 1);
        CoasterDay y = ruled("high 1 2 3;block 1;block 2;",
            "leave 0 if free 1;leave 1 if free 0 and not free 0;leave 2 if free 0 and not free 1;");
        told("1 must show what is so till 2 has left, and lie then", y, 0, 5, 1, 0, 2, 11, 0);
        none("without it", y, 0, 5, 0);
        CoasterDay w = ruled(TWO, "leave 0 if free 1 or not free 1;leave 1 if not free 1;");
        told("it lies on as the TRAIN stays", w, 1, 1, 1, 0, 11);
        none("without it the TRAIN goes on", w, 1, 1, 0);
        CoasterDay z = ruled("high 1 2 3;block 1;block 2;",
            "leave 0 if free 1 and free 2;leave 1 if free 1 and not free 1;leave 2 if free 2 and not free 2;");
        none("what lies can't be told otherwise", z, 0, 7, 1);
        told("two that lie", z, 0, 7, 2, 11, 12, 0);
    }

    private static void rowsNumbers() {
        Check.promise("11 i NONE, or the i-th; NONE: not so many");
        CoasterDay x = Check.on(SIX);
        Check.due("how many", x.row(0, 9, 1, -1), 4);
        Check.due("the first", x.row(0, 9, 1, 0), 0);
        Check.due("the last", x.row(0, 9, 1, 3), 2);
        Check.due("behind", x.row(0, 9, 1, 4), -1);
        Check.due("below NONE", x.row(0, 9, 1, -2), -1);
        Check.due("far above", x.row(0, 9, 1, Integer.MAX_VALUE), -1);
        Check.due("far below", x.row(0, 9, 1, Integer.MIN_VALUE), -1);
        Check.due("of a row without EVENTS", x.row(1, 63, 0, 0), -1);
        Check.due("what 2", x.row(2, 9, 1, -1), -2);
        Check.due("what -1", x.row(-1, 9, 1, -1), -2);
    }

    private static void rulesOfOthers() {
        Check.promise("12 without RULES of it, if the next BLOCK shows free");
        CoasterDay x = ruled(SIX, "leave 1 if not free 2;".repeat(11) + "leave 1 if free 4;");
        Check.due("0 has none", x.leaves(1, 0), 1);
        Check.due("0 has none", x.leaves(3, 0), 0);
        Check.due("the twelfth of 1", x.leaves(2, 1), 1);
        Check.due("the first of 1", x.leaves(22, 1), 1);
        Check.due("none of 1", x.leaves(18, 1), 0);
    }

    private static void times() {
        Check.promise("13 from one end to the other");
        CoasterDay x = Check.on("high 5 5 5 5 5 5 5;drag 0;block 1;block 2;block 3;block 4;block 6;");
        int[] due = {11, 11, 11, 11, 22, 0};
        for (int b = 0; b < due.length; b++) {
            Check.due("BLOCK " + b, x.time(1, b), due[b]);
        }
        Check.due("BLOCK 6", x.time(1, 6), -2);
        Check.due("BLOCK -1", x.time(1, -1), -2);
        Check.due("one BLOCK", Check.on("high 5 5 5;drag 0;").time(20, 0), 22);
    }

    private static void noTimes() {
        Check.promise("13 to 15, 47 without a RUN that is OUT there are none");
        CoasterDay x = Check.on(STUCK);
        Check.due("time", x.time(1, 0), -1);
        Check.due("time of the last BLOCK", x.time(1, 1), -1);
        Check.due("holds", x.holds(1, 1, 1, -1, 0), -1);
        Check.due("beat", x.beat(1, 1, 0, 99), -1);
        Check.due("riders", x.riders(1, 1, 0, 99, 1), -1);
        CoasterDay held = Check.on("high 9 0 99;dog 0 to 1;drag 0;");
        Check.due("HELD", held.time(1, 0), -1);
        CoasterDay heavy = Check.on("high 0 0;push 10;drag 2;");
        Check.due("by 1", heavy.time(1, 0), -1);
        Check.due("by 2", heavy.time(2, 0), 11);
    }

    private static void oneToTenTrains() {
        Check.promise("14 n TRAINS (1 to 10), BEAT (1 to 999)");
        CoasterDay x = Check.on(SLOW);
        Check.due("one", x.holds(1, 1, 1, -1, 0), 0);
        Check.due("one, late", x.holds(1, 1, 1, 0, 999), 0);
        Check.due("two by 1", x.holds(1, 2, 1, -1, 0), 1);
        Check.due("ten by 1", x.holds(1, 10, 1, -1, 0), 9);
        Check.due("ten by 32", x.holds(1, 10, 32, -1, 0), 9);
        Check.due("ten by 33", x.holds(1, 10, 33, -1, 0), 0);
        Check.due("ten by 999", x.holds(1, 10, 999, -1, 0), 0);
        CoasterDay fewer = Check.on("high 5 5 5 5 5 5 5 5;drag 0;block 1;block 2;block 3;block 4;block 5;");
        // The last BLOCK takes 22, the others 11: the second TRAIN is held once, the third twice, from the sixth on five times.
        Check.due("six BLOCKS", fewer.holds(1, 10, 1, -1, 0), 9 + 8 + 7 + 6 + 5);
        Check.tell(fewer, 0, "high 5 5 5;drag 0;block 1;");
        Check.due("two BLOCKS of 11", fewer.holds(1, 10, 1, -1, 0), 0);
        Check.due("none", x.holds(1, 0, 1, -1, 0), -3);
        Check.due("eleven", x.holds(1, 11, 1, -1, 0), -3);
        Check.due("by 0", x.holds(1, 1, 0, -1, 0), -3);
        Check.due("by 1000", x.holds(1, 1, 1000, -1, 0), -3);
    }

    private static void late() {
        Check.promise("14 one (or none) LATE by so much (0 to 999)");
        CoasterDay x = Check.on(SLOW);
        Check.due("none", x.holds(1, 2, 33, -1, 999), 0);
        Check.due("the first by 0", x.holds(1, 2, 33, 0, 0), 0);
        Check.due("the first by 1", x.holds(1, 2, 33, 0, 1), 1);
        Check.due("the last by 999", x.holds(1, 2, 33, 1, 999), 0);
        Check.due("the first by 966", x.holds(1, 2, 999, 0, 966), 0);
        Check.due("the first by 967", x.holds(1, 2, 999, 0, 967), 1);
        Check.due("the tenth", x.holds(1, 10, 33, 9, 999), 0);
        Check.due("the ninth", x.holds(1, 10, 33, 8, 999), 1);
        Check.due("which of two: 2", x.holds(1, 2, 33, 2, 0), -2);
        Check.due("which of ten: 9", x.holds(1, 10, 33, 9, 0), 0);
        Check.due("which of ten: 10", x.holds(1, 10, 33, 10, 0), -2);
        Check.due("which: -2", x.holds(1, 10, 33, -2, 0), -2);
        Check.due("by 1000", x.holds(1, 2, 33, 0, 1000), -3);
        Check.due("by -1", x.holds(1, 2, 33, 0, -1), -3);
    }

    private static void heldAheadOfBlock0() {
        Check.promise("14 HELD UP (not ahead of BLOCK 0)");
        CoasterDay x = Check.on("high 5 5 5 5;drag 0;block 2;");
        // TIMES 22 and 11: who waits ahead of BLOCK 0 till the one ahead has left it is never late behind that.
        Check.due("it waits ahead of BLOCK 0 alone", x.holds(1, 10, 1, -1, 0), 0);
        CoasterDay y = Check.on("high 5 5 5 5;drag 0;block 1;");
        Check.due("TIMES 11 and 22 by 1: from BLOCK 0", y.holds(1, 10, 1, -1, 0), 9);
        Check.due("TIMES 11 and 22 by 22", y.holds(1, 10, 22, -1, 0), 0);
        CoasterDay z = Check.on("high 5 5 5 5 5;drag 0;block 1;block 3;");
        Check.due("TIMES 11, 22, 11 by 22", z.holds(1, 2, 22, -1, 0), 0);
        Check.due("TIMES 11, 22, 11 by 21", z.holds(1, 2, 21, -1, 0), 1);
    }

    private static void lastBlock() {
        Check.promise("14 the last one: at once");
        Check.due("one BLOCK", Check.on("high 5 5 5;drag 0;").holds(1, 10, 1, 0, 999), 0);
        CoasterDay x = Check.on("high 5 5 5 5 5;drag 0;block 1;block 2;");
        // TIMES 11, 11, 22: BLOCK 1 is left for BLOCK 2 once the one ahead has left that.
        Check.due("by 22", x.holds(1, 2, 22, -1, 0), 0);
        Check.due("by 21", x.holds(1, 2, 21, -1, 0), 1);
        Check.due("by 1: from BLOCK 1 alone", x.holds(1, 2, 1, -1, 0), 1);
        Check.due("three by 1: the third from BLOCK 0 and 1", x.holds(1, 3, 1, -1, 0), 3);
    }

    private static void leastBeat() {
        Check.promise("15 LEAST BEAT: 1 to 999, NONE: none to 999");
        CoasterDay x = Check.on(SLOW);
        Check.due("1", x.beat(1, 1, 999, 0), 1);
        Check.due("33", x.beat(1, 2, 0, 0), 33);
        Check.due("999", x.beat(1, 2, 966, 0), 999);
        Check.due("1000 would be needed", x.beat(1, 2, 967, 0), -1);
        Check.due("ten, late by 999", x.beat(1, 10, 999, 0), -1);
        // TRAIN 0 leaves BLOCK 1 at 999 and 44, each of the others 33 behind: the last one isn't held, if 9 BEATS are 999 and 297.
        Check.due("ten, late by 999, 8 times", x.beat(1, 10, 999, 8), 144);
    }

    private static void mostHolds() {
        Check.promise("15 no more than so many (0 to 99)");
        CoasterDay x = Check.on(SLOW);
        Check.due("9 by 1", x.beat(1, 10, 0, 9), 1);
        Check.due("8", x.beat(1, 10, 0, 8), 33);
        Check.due("99", x.beat(1, 10, 999, 99), 1);
        Check.due("100", x.beat(1, 10, 0, 100), -3);
        Check.due("-1", x.beat(1, 10, 0, -1), -3);
    }

    private static void riders() {
        Check.promise("47 RIDERS: seats (1 to 40) times 1000 by LEAST BEAT, cut");
        CoasterDay x = Check.on(SLOW);
        Check.due("1000 by 1", x.riders(1, 1, 0, 0, 1), 1000);
        Check.due("40000 by 1", x.riders(1, 1, 0, 0, 40), 40000);
        Check.due("1000 by 999", x.riders(1, 2, 966, 0, 1), 1);
        Check.due("40000 by 999", x.riders(1, 2, 966, 0, 40), 40);
        Check.due("1000 by 33", x.riders(1, 2, 0, 0, 1), 30);
        Check.due("no LEAST BEAT", x.riders(1, 2, 967, 0, 40), -1);
        Check.due("no seat", x.riders(1, 1, 0, 0, 0), -3);
        Check.due("41 seats", x.riders(1, 1, 0, 0, 41), -3);
    }
}
