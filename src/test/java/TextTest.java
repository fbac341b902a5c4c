/** Promises 2 to 4: THE TAPE, the texts of TRACK and CONTROLLER, and their FAULTS. */
public final class TextTest {
    private static final String RING = "high 1 2 3;block 1;block 2;";

    public static void main(String[] args) {
        feed();
        text();
        whatATrackEnds();
        trackTokens();
        trackBounds();
        trackMosts();
        controllerFaults();
        fault();
        Check.end();
    }

    private static void feed() {
        Check.promise("2 feed");
        CoasterDay x = new CoasterDay();
        for (int k = 1; k <= 20; k++) {
            Check.due("feed " + k, x.feed(-1, 0, 1, 2, 3), 20 * k);
        }
        Check.due("feed of a full TAPE", x.feed(0, 0, 0, 0, 0), -4);
        Check.due("count(11)", x.count(11), 400);
        Check.due("byte 255 begins no TOKEN", x.text(0, 400), -11);
        Check.due("its place", x.fault(1), 0);
        Check.due("THE TAPE is empty then", x.feed(0, 0, 0, 0, 0), 20);
        CoasterDay y = new CoasterDay();
        y.feed(0x68696768, 0x20312032, 0x3b202020, 0x20202020, 0x20202020);
        Check.due("the highest byte of an int comes first", y.text(0, 20), 2);
    }

    private static void text() {
        Check.promise("3 text");
        CoasterDay x = new CoasterDay();
        Check.feed(x, "high 1 2;high 3;");
        Check.due("what", x.text(2, 0), -2);
        Check.due("what and n", x.text(-1, -1), -2);
        Check.due("n below 0", x.text(0, -1), -3);
        Check.due("n above", x.text(0, 21), -3);
        Check.due("n ahead of the TRACK", x.text(1, 21), -3);
        Check.due("1 without a TRACK", x.text(1, 16), -5);
        Check.due("THE TAPE stayed", x.count(11), 20);
        Check.due("the first n bytes", x.text(0, 9), 2);
        Check.due("THE TAPE is empty", x.count(11), 0);
        Check.due("no CONTROLLER in an empty text", x.text(1, 0), 0);
        Check.due("a TRACK in an empty text", x.text(0, 0), -12);
        Check.due("that there was stays", x.count(0), 2);
        Check.due("RULES", Check.tell(x, 1, "leave 0 if free 0;leave 0 if not free 0;"), 2);
        Check.due("a FAULT", Check.tell(x, 1, "leave 0 if free 0;leave"), -12);
        Check.due("RULES stayed", x.count(6), 2);
        Check.due("THE TAPE is empty with a FAULT", x.count(11), 0);
        Check.due("drag, push untold", 100 * x.count(4) + x.count(5), 1000);
        Check.due("the next TRACK", Check.tell(x, 0, "push 7;drag 3;high 1 2 3 4;block 1;dog 0 to 1;dog 0 to 2;chain 1 to 2 speed 9;"), 4);
        Check.due("POINTS", x.count(0), 4);
        Check.due("BLOCKS", x.count(1), 2);
        Check.due("chains", x.count(2), 1);
        Check.due("dogs", x.count(3), 2);
        Check.due("drag", x.count(4), 3);
        Check.due("push", x.count(5), 7);
        Check.due("the CONTROLLER is empty then", x.count(6), 0);
    }

    private static void whatATrackEnds() {
        Check.promise("3 what ends with a TRACK");
        CoasterDay x = filled();
        Check.due("a text with a FAULT", Check.tell(x, 0, "high 1;"), -12);
        int[] stay = {1, 1, 1, 1, 1, 0, 1, 1, 1, 1};
        for (int what = 6; what <= 15; what++) {
            Check.due("count(" + what + ") stays", x.count(what), stay[what - 6]);
        }
        Check.due("STRETCH stays", x.lift(0, 1, 1), 6);
        Check.due("a TRACK", Check.tell(x, 0, "high 0 1;chain 0 to 1 speed 1;"), 2);
        int[] then = {0, 0, 0, 1, 1, 0, 1, 0, 0, 1};
        for (int what = 6; what <= 15; what++) {
            Check.due("count(" + what + ") then", x.count(what), then[what - 6]);
        }
        Check.due("STRETCH is none", x.lift(0, 1, 1), 1);
        Check.due("ENTRIES may have another WEIGHT", x.grow(9, 1, 0), 1);
    }

    /** One of all that there is. */
    private static CoasterDay filled() {
        CoasterDay x = Check.on("high 0 1;chain 0 to 1 speed 1;");
        Check.tell(x, 1, "leave 0 if free 0;");
        x.log(0, 1, 1, 0);
        x.stair(0);
        x.test(1, 1);
        x.part(1, 1);
        x.group(1, 50);
        x.stay(0, 0, 0, 0);
        x.grow(1, 1, 0);
        x.operator(1, 0, 23);
        x.lift(0, 1, 5);
        return x;
    }

    private static void trackTokens() {
        Check.promise("3, 4 TOKENS of a TRACK");
        CoasterDay x = new CoasterDay();
        Check.due("no blanks", Check.tell(x, 0, "high1 2;drag3;dog0to1;"), 2);
        Check.due("more blanks", Check.tell(x, 0, "  high \n 001 02\n;\n "), 2);
        Check.due("height 001", x.point(0, 0), 1);
        Check.faulty(x, 0, "", 2, 0);
        Check.faulty(x, 0, "   ", 2, 3);
        Check.faulty(x, 0, "High 1 2;", 1, 0);
        Check.faulty(x, 0, "high\t1 2;", 1, 4);
        Check.faulty(x, 0, "high 1 2,", 1, 8);
        Check.faulty(x, 0, "high 1 -2;", 1, 7);
        Check.faulty(x, 0, "high 1 0002;", 1, 7);
        Check.faulty(x, 0, "high 100 0002;", 3, 5);
        Check.faulty(x, 0, "high 1 2;high é", 1, 14);
        Check.faulty(x, 0, "high 1 2;\u0000", 1, 9);
        Check.feed(x, "high 1 2;dragx 51;");
        Check.due("a word that n cuts", x.text(0, 13), -12);
        Check.due("its end", x.fault(1), 13);
        Check.feed(x, "high 1 2;drag 51;");
        Check.due("an N that n cuts", x.text(0, 15), -12);
        Check.due("its end", x.fault(1), 15);
        Check.faulty(x, 0, "z", 2, 0);
        Check.faulty(x, 0, "{", 1, 0);
        Check.faulty(x, 0, "`", 1, 0);
        Check.faulty(x, 0, "/", 1, 0);
        Check.faulty(x, 0, ":", 1, 0);
        Check.faulty(x, 0, "hig 1 2;", 2, 0);
        Check.faulty(x, 0, "highs 1 2;", 2, 0);
        Check.faulty(x, 0, "high ;", 2, 5);
        Check.faulty(x, 0, "high 1 2;;", 2, 9);
        Check.faulty(x, 0, "high 1 2", 2, 8);
        Check.faulty(x, 0, "high 1 2  ", 2, 10);
        Check.faulty(x, 0, "high 1 2 to;", 2, 9);
        Check.faulty(x, 0, "high 1 (2);", 2, 7);
        Check.faulty(x, 0, "1 2;", 2, 0);
        Check.faulty(x, 0, "high 1;", 2, 7);
        Check.faulty(x, 0, "drag 1; ", 2, 8);
        Check.faulty(x, 0, "high 1 2;chain 0 1 speed 2;", 2, 17);
        Check.faulty(x, 0, "high 1 2;chain 0 to 1;", 2, 21);
        Check.faulty(x, 0, "high 1 2;dog 0 to 1 speed 3;", 2, 20);
        Check.faulty(x, 0, "high 1 2;block 1 1;", 2, 17);
        Check.faulty(x, 0, "high 1 2;leave 0;", 2, 9);
    }

    private static void trackBounds() {
        Check.promise("3, 4 bounds of a TRACK");
        CoasterDay x = new CoasterDay();
        Check.due("at the bounds", Check.tell(x, 0, "high 0 99;drag 50;push 999;block 1;chain 0 to 1 speed 999;dog 0 to 1;"), 2);
        Check.faulty(x, 0, "high 1 100;", 3, 7);
        Check.faulty(x, 0, "drag 51;", 3, 5);
        Check.faulty(x, 0, "block 1;", 3, 6);
        Check.faulty(x, 0, "high 1 2;block 0;", 3, 15);
        Check.faulty(x, 0, "high 1 2;block 2;high 3;", 3, 15);
        Check.faulty(x, 0, "high 1 2 3;block 2;block 1;", 3, 25);
        Check.faulty(x, 0, "high 1 2 3;block 2;block 2;", 3, 25);
        Check.faulty(x, 0, "high 1 2;chain 2 to 3 speed 1;", 3, 15);
        Check.faulty(x, 0, "high 1 2;chain 1 to 1 speed 1;", 3, 20);
        Check.faulty(x, 0, "high 1 2;chain 0 to 2 speed 1;", 3, 20);
        Check.faulty(x, 0, "high 1 2;dog 2 to 3;", 3, 13);
        Check.faulty(x, 0, "high 1 2 3;dog 2 to 1;", 3, 20);
        Check.faulty(x, 0, "high 1 2;dog 0 to 9;", 3, 18);
        Check.faulty(x, 0, "high 1 2;dog 0 to 2;", 3, 18);
        Check.faulty(x, 0, "high 1 2;dog 0 to 0;", 3, 18);
        Check.faulty(x, 0, "high 1 2;dog 1 to 1;", 3, 18);
        Check.due("push 0, drag 0, speed 0", Check.tell(x, 0, "high 1 2;push 0;drag 0;chain 0 to 1 speed 0;"), 2);
        Check.due("told ahead, by two lines", Check.tell(x, 0, "high 1;high 2;block 1;high 3;block 2;"), 3);
    }

    private static void trackMosts() {
        Check.promise("3, 4 as many as can be in a TRACK");
        CoasterDay x = new CoasterDay();
        String sixty = "high" + " 1".repeat(60);
        Check.due("60 POINTS", Check.tell(x, 0, sixty + ";"), 60);
        Check.faulty(x, 0, sixty + " 2;", 5, 125);
        Check.faulty(x, 0, sixty + " 100;", 3, 125);
        Check.faulty(x, 0, sixty + ";high 1;", 5, 130);
        Check.faulty(x, 0, "drag 1;drag 2;", 4, 7);
        Check.faulty(x, 0, "push 1;push x", 4, 7);
        String five = "high 1 2 3 4 5 6 7;block 1;block 2;block 3;block 4;block 5;";
        Check.due("5 blocks", Check.tell(x, 0, five), 7);
        Check.due("6 BLOCKS", x.count(1), 6);
        Check.faulty(x, 0, five + "block 6;", 5, 59);
        Check.faulty(x, 0, five + "block é", 5, 59);
        String chains = "high 1 2;chain 0 to 1 speed 1;chain 0 to 1 speed 2;";
        Check.due("2 chains", Check.tell(x, 0, chains), 2);
        Check.faulty(x, 0, chains + "chain", 5, 51);
        String dogs = "high 1 2;dog 0 to 1;dog 0 to 1;";
        Check.due("2 dogs", Check.tell(x, 0, dogs), 2);
        Check.faulty(x, 0, dogs + "dog 0 to 1;", 5, 31);
    }

    private static void controllerFaults() {
        Check.promise("3, 4 the CONTROLLER");
        CoasterDay x = Check.on(RING);
        Check.due("a RULE", Check.tell(x, 1, "leave 2 if not(free 0 or free 1)and free 2;"), 1);
        Check.faulty(x, 1, "leave 3 if free 0;", 3, 6);
        Check.faulty(x, 1, "leave 0 if free 3;", 3, 16);
        Check.faulty(x, 1, "leave 0 if free 0", 2, 17);
        Check.faulty(x, 1, "leave 0 if free 0 ", 2, 18);
        Check.faulty(x, 1, "leave 0 free 0;", 2, 8);
        Check.faulty(x, 1, "leave 0 if;", 2, 10);
        Check.faulty(x, 1, "leave if free 0;", 2, 6);
        Check.faulty(x, 1, "free 0;", 2, 0);
        Check.faulty(x, 1, "leave 0 if free 0 not free 1;", 2, 18);
        Check.faulty(x, 1, "leave 0 if free 0 or;", 2, 20);
        Check.faulty(x, 1, "leave 0 if free 0 and or free 1;", 2, 22);
        Check.faulty(x, 1, "leave 0 if (free 0;", 2, 18);
        Check.faulty(x, 1, "leave 0 if free 0);", 2, 17);
        Check.faulty(x, 1, "leave 0 if ();", 2, 12);
        Check.faulty(x, 1, "leave 0 if not;", 2, 14);
        Check.faulty(x, 1, "leave 0 if free 0000;", 1, 16);
        Check.faulty(x, 1, "leave 0 if Free 0;", 1, 11);
        Check.faulty(x, 1, "high 1 2;", 2, 0);
        String eight = "leave 0 if not(not(not(not(";
        Check.due("8 open", Check.tell(x, 1, eight + "free 0))))and not(free 1);"), 1);
        Check.faulty(x, 1, eight + "not free 0))));", 5, 27);
        Check.faulty(x, 1, eight + "(free 0)))));", 5, 27);
        Check.faulty(x, 1, eight + "free 0 and (free 0)))));", 5, 38);
        String twelve = "leave 0 if free 0;".repeat(12);
        Check.due("12 RULES", Check.tell(x, 1, twelve), 12);
        Check.faulty(x, 1, twelve + "leave 9", 4, 216);
        Check.faulty(x, 1, twelve + "free", 2, 216);
        Check.due("RULES stayed", x.count(6), 12);
    }

    private static void fault() {
        Check.promise("4 fault");
        CoasterDay x = new CoasterDay();
        Check.faulty(x, 0, "high 1 2", 2, 8);
        Check.due("what", x.fault(2), -1);
        Check.due("what", x.fault(-1), -1);
        Check.due("refused", x.text(0, 1), -3);
        Check.due("a text that wasn't read changes nothing", x.fault(1), 8);
        Check.due("image", x.image(0), 0);
        Check.tell(x, 0, "high 1 2;");
        Check.due("without a FAULT", x.fault(0), 0);
        Check.due("without a FAULT", x.fault(1), -1);
        Check.tell(x, 0, "x");
        x.restore(0);
        Check.due("an IMAGE has no FAULT", x.fault(0), 2);
    }
}
