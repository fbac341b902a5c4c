/** Promises 11 and 12: CRASH, STOP, and who may leave. */
public final class BlocksTest {
    private static final String TWO = "high 1 2 3;block 1;";
    private static final String THREE = "high 1 2 3;block 1;block 2;";
    private static final String SIX = "high 1 2 3 4 5 6;block 1;block 2;block 3;block 4;block 5;";

    public static void main(String[] args) {
        crash();
        stop();
        order();
        rules();
        lies();
        oneBlock();
        refused();
        leaves();
        Check.end();
    }

    /** The length of a row, each EVENT of it, and NONE behind it. */
    private static void told(String name, CoasterDay x, int what, int trains, int lies, int[] due) {
        Check.due(name + " length", x.row(what, trains, lies, -1), due.length);
        for (int i = 0; i < due.length; i++) {
            Check.due(name + " EVENT " + i, x.row(what, trains, lies, i), due[i]);
        }
        Check.due(name + " behind it", x.row(what, trains, lies, due.length), -1);
        Check.due(name + " below it", x.row(what, trains, lies, -2), -1);
    }

    private static void none(String name, CoasterDay x, int what, int trains, int lies) {
        Check.due(name, x.row(what, trains, lies, -1), -1);
        Check.due(name, x.row(what, trains, lies, 0), -1);
    }

    private static void crash() {
        Check.promise("11 CRASH");
        CoasterDay x = Check.on(TWO);
        none("without lies there is none", x, 0, 3, 0);
        none("one TRAIN alone", x, 0, 1, 3);
        none("no TRAIN", x, 0, 0, 3);
        told("a SENSOR lies free", x, 0, 3, 1, new int[] {10, 1});
        CoasterDay y = Check.on(THREE);
        told("the next BLOCK", y, 0, 3, 1, new int[] {11, 0});
        told("a TRAIN two ahead: one goes, one lies", y, 0, 5, 1, new int[] {10, 2});
        CoasterDay z = Check.on(SIX);
        told("TRAINS in 0 and 3", z, 0, 9, 1, new int[] {0, 1, 13, 2});
        told("no lie may be too many", z, 0, 9, 3, new int[] {0, 1, 13, 2});
        none("six TRAINS, no lie", z, 0, 63, 0);
        told("six TRAINS, one lie", z, 0, 63, 1, new int[] {10, 5});
    }

    private static void stop() {
        Check.promise("11 STOP");
        CoasterDay x = Check.on(TWO);
        told("both full", x, 1, 3, 0, new int[] {});
        none("one goes round and round", x, 1, 1, 0);
        none("no TRAIN", x, 1, 0, 3);
        told("its next one lies full", x, 1, 1, 1, new int[] {21});
        CoasterDay z = Check.on(SIX);
        none("one lie can't stop two far off", z, 1, 9, 0);
        told("one lie stops two in a row", z, 1, 3, 1, new int[] {22});
        told("two lies", z, 1, 9, 2, new int[] {21, 24});
        told("one lie: they must come together", z, 1, 9, 1, new int[] {0, 1, 24});
    }

    private static void order() {
        Check.promise("11 of like rows the first");
        CoasterDay z = Check.on(SIX);
        told("first EVENTS, not those nearest", z, 0, 18, 1, new int[] {1, 2, 14, 3});
        told("three TRAINS", z, 0, 21, 1, new int[] {0, 12, 1});
        told("stops", z, 1, 21, 3, new int[] {0, 23, 25});
        told("stops with fewer lies", z, 1, 21, 2, new int[] {0, 23, 25});
    }

    private static void rules() {
        Check.promise("11 RULES");
        CoasterDay x = Check.on(TWO);
        Check.tell(x, 1, "leave 0 if not free 1;");
        told("a bad RULE", x, 0, 3, 0, new int[] {0});
        told("a TRAIN that may not leave", x, 1, 1, 0, new int[] {});
        told("it goes on to where it may not", x, 1, 2, 0, new int[] {1});
        none("who may leave isn't stopped, though it would crash", x, 1, 3, 0);
        CoasterDay y = Check.on(THREE);
        Check.tell(y, 1, "leave 0 if free 1 and free 2;leave 1 if free 2 or free 0;leave 1 if not free 1 and not free 2;");
        Check.due("the second RULE of a BLOCK", y.leaves(6, 1), 1);
        told("by it", y, 0, 6, 0, new int[] {1});
        told("a STOP at once", y, 1, 5, 0, new int[] {});
        Check.tell(y, 1, "leave 0 if free 0 and not free 0;leave 1 if free 0 and not free 0;leave 2 if free 0 and not free 0;");
        told("nothing may go ever", y, 1, 2, 3, new int[] {});
        none("nothing crashes ever", y, 0, 7, 3);
    }

    private static void lies() {
        Check.promise("11 lies");
        CoasterDay x = Check.on(THREE);
        Check.tell(x, 1, "leave 0 if free 0 and free 1;leave 1 if free 0 and free 1;leave 2 if free 0 and free 1 and free 2;");
        none("two lies are needed", x, 0, 3, 1);
        told("two lies", x, 0, 3, 2, new int[] {10, 11, 0});
        told("three lies: 0 leaves for 1, 2 for 0", x, 0, 7, 3, new int[] {10, 11, 0});
        Check.tell(x, 1, "leave 0 if free 0 and free 1 and not free 2;leave 1 if free 0 and free 1 and free 2 and not free 2;leave 2 if free 0 and not free 0;");
        told("a lie of each kind", x, 0, 3, 3, new int[] {10, 11, 22, 0});
        none("one lie too few", x, 0, 3, 2);
        Check.tell(x, 1, "leave 0 if free 2;leave 1 if not free 2;leave 2 if free 2 and not free 2;");
        none("a SENSOR that lies can't lie otherwise", x, 0, 5, 3);
    }

    private static void oneBlock() {
        Check.promise("11, 12 one BLOCK alone");
        CoasterDay x = Check.on("high 1 2;");
        Check.due("leaves", x.leaves(1, 0), 0);
        told("STOP", x, 1, 1, 0, new int[] {});
        none("CRASH", x, 0, 1, 3);
        Check.tell(x, 1, "leave 0 if not free 0;");
        Check.due("nothing leaves it, by a RULE neither", x.leaves(1, 0), 0);
        none("CRASH", x, 0, 1, 3);
    }

    private static void refused() {
        Check.promise("11 refused");
        CoasterDay x = Check.on(TWO);
        Check.due("what", x.row(2, 4, 4, -1), -2);
        Check.due("what", x.row(-1, 1, 0, -1), -2);
        Check.due("bits", x.row(0, 4, 0, -1), -3);
        Check.due("bits below 0", x.row(0, -1, 0, -1), -3);
        Check.due("lies", x.row(0, 1, 4, -1), -3);
        Check.due("lies", x.row(0, 1, -1, -1), -3);
    }

    private static void leaves() {
        Check.promise("12 leaves");
        CoasterDay x = Check.on(THREE);
        Check.due("the next is free", x.leaves(1, 0), 1);
        Check.due("none is in it", x.leaves(1, 1), 0);
        Check.due("the next isn't free", x.leaves(3, 0), 0);
        Check.due("the one ahead", x.leaves(3, 1), 1);
        Check.due("behind the last one comes 0", x.leaves(4, 2), 1);
        Check.due("which isn't free", x.leaves(5, 2), 0);
        Check.tell(x, 1, "leave 0 if free 1 or free 2 and not free 0;leave 2 if not(free 1 or free 0);");
        Check.due("and binds more than or", x.leaves(5, 0), 1);
        Check.due("free 2 and not free 0", x.leaves(3, 0), 1);
        Check.due("neither", x.leaves(7, 0), 0);
        Check.due("1 has no RULE", x.leaves(2, 1), 1);
        Check.due("2: 0 and 1 aren't free", x.leaves(7, 2), 1);
        Check.due("2: 1 is free", x.leaves(5, 2), 0);
        Check.tell(x, 1, "leave 0 if (free 1 or free 2) and not not free 2;");
        Check.due("( )", x.leaves(5, 0), 0);
        Check.due("not not", x.leaves(3, 0), 1);
        CoasterDay z = Check.on(SIX);
        Check.tell(z, 1, "leave 0 if free 1;leave 5 if not free 0 and not free 5;");
        Check.due("where nothing is free", z.leaves(63, 0), 0);
        Check.due("where nothing is free", z.leaves(63, 5), 1);
        Check.due("BLOCK", x.leaves(8, 3), -2);
        Check.due("BLOCK", x.leaves(1, -1), -2);
        Check.due("bits", x.leaves(8, 0), -3);
        Check.due("bits", x.leaves(-1, 0), -3);
    }
}
