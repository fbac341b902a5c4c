/** The boundaries of THE TAPE and of the two texts (promises 2 to 4), a sentence of the document each. */
public final class EdgesTextTest {
    private static final String SIX = "high 1 2 3 4 5 6;block 1;block 2;block 3;block 4;block 5;";

    public static void main(String[] args) {
        tapeOf400();
        bytesOfAnInt();
        textOf400();
        textOfNone();
        linesAnyNumber();
        signsOfTokens();
        lettersOfWords();
        lengthOfN();
        heights();
        sixtyPoints();
        blocks();
        chains();
        dogs();
        dragAndPush();
        firstAlongTheText();
        leastKind();
        theEnd();
        ruleBlocks();
        twelveRules();
        nineOpen();
        controllerEmpty();
        faultStays();
        Check.end();
    }

    private static void tapeOf400() {
        Check.promise("2 -4: it would have more than 400");
        CoasterDay x = new CoasterDay();
        Check.due("empty at first", x.count(11), 0);
        for (int k = 1; k <= 19; k++) {
            x.feed(0, 0, 0, 0, 0);
        }
        Check.due("380", x.count(11), 380);
        Check.due("the last twenty", x.feed(0, 0, 0, 0, 0x3b), 400);
        Check.due("more than 400", x.feed(1, 1, 1, 1, 1), -4);
        Check.due("they stay", x.count(11), 400);
        Check.due("more than there is", x.text(0, 401), -3);
        Check.due("all that there is", x.text(0, 400), -11);
        Check.due("empty again", x.count(11), 0);
        Check.due("room again", x.feed(0, 0, 0, 0, 0), 20);
    }

    private static void bytesOfAnInt() {
        Check.promise("2 the highest of each int first");
        // "high 1 2" and ";" in the twentieth byte, then one line more with the bytes 255 and 128 in it.
        CoasterDay x = new CoasterDay();
        x.feed(0x68696768, 0x20312032, 0x20202020, 0x20202020, 0x2020203b);
        x.feed(0x2020ff80, 0xffffffff, 0x80000000, 0x7fffffff, -1);
        Check.due("ahead of them", x.text(0, 22), 2);
        x.feed(0x68696768, 0x20312032, 0x20202020, 0x20202020, 0x2020203b);
        x.feed(0x2020ff80, 0xffffffff, 0x80000000, 0x7fffffff, -1);
        Check.due("with the first of them", x.text(0, 23), -11);
        Check.due("its place", x.fault(1), 22);
        x.feed(0x20202080, 0, 0, 0, 0);
        Check.due("byte 128", x.text(0, 4), -11);
        Check.due("its place", x.fault(1), 3);
    }

    private static void textOf400() {
        Check.promise("3 a TEXT of at most 400 bytes");
        CoasterDay x = new CoasterDay();
        String track = "high 1 2" + " ".repeat(391) + ";";
        Check.due("400 bytes, the last one counts", Check.tell(x, 0, track), 2);
        Check.feed(x, track);
        Check.due("399 of them", x.text(0, 399), -12);
        Check.due("the end", x.fault(1), 399);
        Check.faulty(x, 0, "high 1 2" + " ".repeat(392), 2, 400);
        Check.faulty(x, 0, "high 1 2;" + " ".repeat(390) + "x", 2, 399);
        Check.faulty(x, 0, "high 1 2;" + " ".repeat(390) + "_", 1, 399);
        Check.faulty(x, 0, "high 1 2;" + " ".repeat(388) + "100", 2, 397);
        Check.faulty(x, 0, "high 1 2;" + " ".repeat(387) + "1000", 1, 396);
        Check.faulty(x, 0, ";".repeat(400), 2, 0);
        Check.tell(x, 0, "high 1 2 3;block 1;");
        String rule = "  leave 0 if free 0" + " or free 0".repeat(37) + " or free 1;";
        Check.due("a RULE of 400 bytes", Check.tell(x, 1, rule), 1);
        Check.due("its last FACT counts", x.leaves(1, 0), 1);
    }

    private static void textOfNone() {
        Check.promise("3 the first n bytes: none");
        CoasterDay x = new CoasterDay();
        Check.due("of an empty TAPE", x.text(0, 0), -12);
        Check.due("at the text's length", x.fault(1), 0);
        Check.feed(x, "high 1 2;");
        Check.due("of a TAPE that isn't", x.text(0, 0), -12);
        Check.due("it is empty then", x.count(11), 0);
        Check.tell(x, 0, "high 1 2;");
        Check.tell(x, 1, "leave 0 if free 0;");
        Check.due("a CONTROLLER without RULES", x.text(1, 0), 0);
        Check.due("they are gone", x.count(6), 0);
        Check.due("no FAULT", x.fault(0), 0);
        Check.due("no place", x.fault(1), -1);
        Check.due("blanks alone", Check.tell(x, 1, " \n \n"), 0);
    }

    private static void linesAnyNumber() {
        Check.promise("3 { } any number of times");
        CoasterDay x = new CoasterDay();
        Check.due("57 lines, 399 bytes", Check.tell(x, 0, "high 1;".repeat(57)), 57);
        Check.due("58 heights in two lines", Check.tell(x, 0, "high 1;" + "high" + " 2".repeat(57) + ";"), 58);
        Check.faulty(x, 0, "high;", 2, 4);
        Check.due("one height a line", Check.tell(x, 0, "high 1;high 2;"), 2);
        Check.faulty(x, 0, "high 1;", 2, 7);
    }

    private static void signsOfTokens() {
        Check.promise("3 TOKENS: blanks (10, 32), small letters, digits, ; ( )");
        CoasterDay x = new CoasterDay();
        Check.due("10 and 32", Check.tell(x, 0, "high\n1\n 2\n;\n"), 2);
        for (int sign = 0; sign < 256; sign++) {
            x = sign % 16 == 0 ? new CoasterDay() : x;
            boolean isBlank = sign == 10 || sign == 32;
            boolean begins = sign >= 'a' && sign <= 'z' || sign >= '0' && sign <= '9' || sign == ';' || sign == '(' || sign == ')';
            if (!isBlank) {
                Check.faulty(x, 0, "high 1 2;" + (char) sign, begins ? 2 : 1, 9);
                Check.faulty(x, 0, "high 1 2; " + (char) sign + " ;", begins ? 2 : 1, 10);
            }
        }
    }

    /** In place of each word one that has another letter, one letter less, one more. */
    private static void lettersOfWords() {
        Check.promise("3 the words of LINES and RULES");
        String track = "high 1 2 3;block 1;chain 0 to 1 speed 5;dog 0 to 1;drag 1;push 1;";
        String rule = "leave 0 if not free 0 and (free 1 or free 0);";
        for (int what = 0; what < 2; what++) {
            String whole = what == 0 ? track : rule;
            for (int at = 0; at < whole.length(); at++) {
                CoasterDay x = Check.on("high 1 2 3;block 1;");
                int from = at;
                while (from > 0 && Character.isLetter(whole.charAt(from - 1))) {
                    from--;
                }
                if (Character.isLetter(whole.charAt(at))) {
                    Check.faulty(x, what, whole.substring(0, at) + "z" + whole.substring(at + 1), 2, from);
                    Check.faulty(x, what, whole.substring(0, at) + "z" + whole.substring(at), 2, from);
                    Check.faulty(x, what, whole.substring(0, at + 1) + "z" + whole.substring(at + 1), 2, from);
                    Check.faulty(x, what, whole.substring(0, at) + "H" + whole.substring(at + 1), at > from ? 2 : 1, from);
                }
            }
            Check.due("as it is", Check.tell(Check.on("high 1 2 3;block 1;"), what, whole), what == 0 ? 3 : 1);
        }
    }

    private static void lengthOfN() {
        Check.promise("3 N (1 to 3 digits); 1: 4 digits and more, at their first");
        CoasterDay x = new CoasterDay();
        Check.due("1 to 3 digits", Check.tell(x, 0, "high 1 01 001 99 099;push 999;"), 5);
        Check.due("099", x.point(4, 0), 99);
        Check.faulty(x, 0, "high 1 0099;", 1, 7);
        Check.faulty(x, 0, "high 1 2;push 0000;", 1, 14);
        Check.faulty(x, 0, "high 1 2;push 1000;", 1, 14);
        Check.faulty(x, 0, "high 1 2;push 999999999999999;", 1, 14);
        Check.faulty(x, 0, "high 1 2 0000", 1, 9);
        Check.due("an N behind a word, a word behind an N", Check.tell(x, 0, "high0 1;dog0to1;"), 2);
        Check.faulty(x, 0, "high 1 2;dog0000to1;", 1, 12);
    }

    private static void heights() {
        Check.promise("3 heights (0 to 99 each)");
        CoasterDay x = new CoasterDay();
        Check.due("0 and 99", Check.tell(x, 0, "high 0 99;"), 2);
        Check.due("0", x.point(0, 0), 0);
        Check.due("99", x.point(1, 0), 99);
        Check.faulty(x, 0, "high 0 100;", 3, 7);
        Check.faulty(x, 0, "high 999;", 3, 5);
        Check.due("99 is there", x.point(1, 0), 99);
    }

    private static void sixtyPoints() {
        Check.promise("3 at most 60 POINTS; 5: a 61st height");
        CoasterDay x = new CoasterDay();
        String sixty = "high 0" + " 1".repeat(58) + " 99;";
        Check.due("60", Check.tell(x, 0, sixty), 60);
        Check.due("the last one", x.point(59, 0), 99);
        Check.due("behind it", x.point(60, 0), -2);
        Check.due("30 and 30", Check.tell(x, 0, ("high" + " 7".repeat(30) + ";").repeat(2)), 60);
        Check.faulty(x, 0, sixty.replace(";", " 1;"), 5, sixty.length());
        Check.faulty(x, 0, sixty + "high 1;", 5, sixty.length() + 5);
        Check.faulty(x, 0, "high 1;" + "high" + " 1".repeat(60) + ";", 5, 11 + 2 * 59 + 1);
        Check.due("60 are there", x.count(0), 60);
        Check.due("other lines may follow", Check.tell(x, 0, sixty + "drag 1;block 59;chain 58 to 59 speed 1;dog 58 to 59;"), 60);
        Check.faulty(x, 0, sixty + "block 60;", 3, sixty.length() + 6);
    }

    private static void blocks() {
        Check.promise("3 block: told ahead (1 and more), above the block ahead; at most 5");
        CoasterDay x = new CoasterDay();
        Check.due("POINT 1", Check.tell(x, 0, "high 1 2;block 1;"), 2);
        Check.faulty(x, 0, "high 1 2;block 0;", 3, 15);
        Check.faulty(x, 0, "high 1 2;block 2;", 3, 15);
        Check.faulty(x, 0, "high 1;block 1;high 2;", 3, 13);
        Check.due("one above", Check.tell(x, 0, "high 1 2 3;block 1;block 2;"), 3);
        Check.faulty(x, 0, "high 1 2 3;block 1;block 1;", 3, 25);
        Check.faulty(x, 0, "high 1 2 3;block 2;block 1;", 3, 25);
        Check.due("5 blocks", Check.tell(x, 0, SIX), 6);
        Check.due("6 BLOCKS", x.count(1), 6);
        Check.faulty(x, 0, SIX.replace("6;", "6 7;") + "block 6;", 5, SIX.length() + 2);
        Check.faulty(x, 0, SIX + "block", 5, SIX.length());
        Check.faulty(x, 0, "block 0;", 3, 6);
        Check.due("without a block", Check.tell(x, 0, "high 1 2;"), 2);
        Check.due("one BLOCK", x.count(1), 1);
    }

    private static void chains() {
        Check.promise("3 chain: from a POINT to another one above it, both told ahead; speed 0 to 999; at most 2");
        CoasterDay x = new CoasterDay();
        Check.due("0 to 1, 0 to 2", Check.tell(x, 0, "high 1 2 3;chain 0 to 1 speed 0;chain 0 to 2 speed 999;"), 3);
        Check.due("speed 0", x.slips(0, 1), 0);
        Check.due("speed 999", x.slips(1, 1), 999000);
        Check.due("the last two", Check.tell(x, 0, "high 1 2 3;chain 1 to 2 speed 1;"), 3);
        Check.faulty(x, 0, "high 1 2 3;chain 1 to 1 speed 1;", 3, 22);
        Check.faulty(x, 0, "high 1 2 3;chain 2 to 1 speed 1;", 3, 22);
        Check.faulty(x, 0, "high 1 2 3;chain 1 to 0 speed 1;", 3, 22);
        Check.faulty(x, 0, "high 1 2 3;chain 0 to 3 speed 1;", 3, 22);
        Check.faulty(x, 0, "high 1 2 3;chain 3 to 4 speed 1;", 3, 17);
        Check.faulty(x, 0, "high 1 2;chain 0 to 2 speed 1;high 3;", 3, 20);
        Check.faulty(x, 0, "chain 0 to 1 speed 1;high 1 2;", 3, 6);
        Check.faulty(x, 0, "high 1 2 3;chain 0 to 1 speed 1000;", 1, 30);
        String two = "high 1 2 3;chain 0 to 1 speed 1;chain 1 to 2 speed 1;";
        Check.due("two", Check.tell(x, 0, two), 3);
        Check.faulty(x, 0, two + "chain 0 to 1 speed 1;", 5, two.length());
    }

    private static void dogs() {
        Check.promise("3 dog: from a POINT to another one above it, both told ahead; at most 2");
        CoasterDay x = new CoasterDay();
        Check.due("0 to 1, 0 to 2", Check.tell(x, 0, "high 1 2 3;dog 0 to 1;dog 0 to 2;"), 3);
        Check.due("two", x.count(3), 2);
        Check.faulty(x, 0, "high 1 2 3;dog 1 to 1;", 3, 20);
        Check.faulty(x, 0, "high 1 2 3;dog 2 to 1;", 3, 20);
        Check.faulty(x, 0, "high 1 2 3;dog 0 to 3;", 3, 20);
        Check.faulty(x, 0, "high 1 2 3;dog 3 to 4;", 3, 15);
        Check.faulty(x, 0, "high 1 2;dog 0 to 2;high 3;", 3, 18);
        Check.faulty(x, 0, "dog 0 to 1;high 1 2;", 3, 4);
        String two = "high 1 2 3;dog 0 to 1;dog 1 to 2;";
        Check.due("two", Check.tell(x, 0, two), 3);
        Check.faulty(x, 0, two + "dog 0 to 1;", 5, two.length());
    }

    private static void dragAndPush() {
        Check.promise("3 drag 0 to 50 (10 without), push 0 to 999 (0 without); 4: a second one");
        CoasterDay x = new CoasterDay();
        Check.tell(x, 0, "high 1 2;");
        Check.due("drag without", x.count(4), 10);
        Check.due("push without", x.count(5), 0);
        Check.tell(x, 0, "drag 0;push 0;high 1 2;");
        Check.due("drag 0", x.count(4), 0);
        Check.due("push 0", x.count(5), 0);
        Check.tell(x, 0, "high 1 2;drag 50;push 999;");
        Check.due("drag 50", x.count(4), 50);
        Check.due("push 999", x.count(5), 999);
        Check.faulty(x, 0, "high 1 2;drag 51;", 3, 14);
        Check.faulty(x, 0, "high 1 2;drag 50;drag 50;", 4, 17);
        Check.faulty(x, 0, "high 1 2;drag 0;drag 0;", 4, 16);
        Check.faulty(x, 0, "high 1 2;push 0;push 0;", 4, 16);
        Check.faulty(x, 0, "high 1 2;push 9;drag 9;push", 4, 23);
        Check.due("they stay", 1000 * x.count(4) + x.count(5), 50999);
        Check.tell(x, 0, "high 1 2;");
        Check.due("without again", 1000 * x.count(4) + x.count(5), 10000);
    }

    private static void firstAlongTheText() {
        Check.promise("3 FAULTS, the first along the text");
        CoasterDay x = new CoasterDay();
        Check.faulty(x, 0, "high 100 A;", 3, 5);
        Check.faulty(x, 0, "high 1 2;block 9 to 0000;", 3, 15);
        Check.faulty(x, 0, "high 1 2;to 0000;", 2, 9);
        Check.faulty(x, 0, "high 1 2;drag 1;drag 51;A", 4, 16);
        Check.faulty(x, 0, "high" + " 1".repeat(61) + " 100 A", 5, 125);
        Check.faulty(x, 0, "high 1 A;high 100;", 1, 7);
        Check.faulty(x, 0, "high 1;A", 1, 7);
        Check.faulty(x, 0, "high 1;high 100", 3, 12);
    }

    private static void leastKind() {
        Check.promise("3 FAULTS, of one TOKEN the least kind");
        CoasterDay x = new CoasterDay();
        String sixty = "high" + " 1".repeat(60);
        Check.faulty(x, 0, sixty + " 99", 5, 125);
        Check.faulty(x, 0, sixty + " 100", 3, 125);
        Check.faulty(x, 0, sixty + " 1000", 1, 125);
        Check.faulty(x, 0, sixty + " to", 2, 125);
        Check.faulty(x, 0, sixty + " A", 1, 125);
        Check.faulty(x, 0, sixty, 2, 124);
        Check.faulty(x, 0, "high 1 2;drag drag 1;", 2, 14);
        Check.faulty(x, 0, "high 1 2;drag 1 drag 2;", 2, 16);
        Check.faulty(x, 0, SIX + "block 5 block 6;", 5, SIX.length());
        Check.faulty(x, 0, SIX.replace("block 5;", "block 5 block 6;"), 2, SIX.length());
        Check.faulty(x, 0, "high 1 2;drag 1000;", 1, 14);
    }

    private static void theEnd() {
        Check.promise("3 FAULT 2: the end, at the text's length: too early, or with fewer than 2 POINTS");
        CoasterDay x = new CoasterDay();
        String whole = "high 1 2;chain 0 to 1 speed 5;dog 0 to 1;block 1;drag 1;push 1;";
        for (int n = 1; n < whole.length(); n++) {
            x = n % 32 == 0 ? new CoasterDay() : x;
            boolean isWhole = whole.charAt(n - 1) == ';';
            Check.feed(x, whole);
            int told = x.text(0, n);
            if (isWhole) {
                Check.due(n + " bytes", told, 2);
            } else {
                // What n cuts off a word is another word, which can't stand where it begins.
                boolean isCut = Character.isLetter(whole.charAt(n - 1)) && Character.isLetter(whole.charAt(n));
                int begin = n;
                while (isCut && begin > 0 && Character.isLetter(whole.charAt(begin - 1))) {
                    begin--;
                }
                Check.due(n + " bytes", told, -12);
                Check.due(n + " bytes, the place", x.fault(1), begin);
            }
        }
        Check.faulty(x, 0, "drag 1;", 2, 7);
        Check.faulty(x, 0, "high 1;drag 1;\n", 2, 15);
        Check.due("two POINTS", Check.tell(x, 0, "high 1;drag 1;high 2;"), 2);
    }

    private static void ruleBlocks() {
        Check.promise("3 N are BLOCKS that there are (else FAULT 3)");
        CoasterDay x = Check.on("high 1 2;");
        Check.due("BLOCK 0", Check.tell(x, 1, "leave 0 if free 0;"), 1);
        Check.faulty(x, 1, "leave 1 if free 0;", 3, 6);
        Check.faulty(x, 1, "leave 0 if free 1;", 3, 16);
        Check.tell(x, 0, SIX);
        Check.due("BLOCK 5", Check.tell(x, 1, "leave 5 if free 5 and not free 5 or (free 5);"), 1);
        Check.faulty(x, 1, "leave 6 if free 0;", 3, 6);
        Check.faulty(x, 1, "leave 0 if free 6;", 3, 16);
        Check.faulty(x, 1, "leave 0 if free 0 or not (free 6);", 3, 31);
        Check.faulty(x, 1, "leave 0 if free 0 and free 999;", 3, 27);
        Check.faulty(x, 1, "leave 0 if free 1000;", 1, 16);
        Check.due("the RULE stays", x.count(6), 1);
    }

    private static void twelveRules() {
        Check.promise("3 at most 12 RULES (4 at the first TOKEN of a 13th one)");
        CoasterDay x = Check.on(SIX);
        String eleven = "leave 0 if free 1;".repeat(11);
        Check.due("11", Check.tell(x, 1, eleven), 11);
        String twelve = eleven + "leave 5 if free 1;";
        Check.due("12", Check.tell(x, 1, twelve), 12);
        Check.due("the 12th holds", x.leaves(33, 5), 1);
        Check.faulty(x, 1, twelve + "leave 0 if free 1;", 4, 216);
        Check.faulty(x, 1, twelve + "leave", 4, 216);
        Check.faulty(x, 1, twelve + " leave", 4, 217);
        Check.faulty(x, 1, twelve + "leaves", 2, 216);
        Check.faulty(x, 1, twelve + ";", 2, 216);
        Check.faulty(x, 1, twelve + "1000", 1, 216);
        Check.faulty(x, 1, twelve + "A", 1, 216);
        Check.faulty(x, 1, eleven + "leave 6 if free 1;leave", 3, 204);
        Check.due("12 are there", x.count(6), 12);
        Check.due("and blanks", Check.tell(x, 1, twelve + "\n"), 12);
    }

    private static void nineOpen() {
        Check.promise("3 5 at the 9th not or ( open around one another");
        CoasterDay x = Check.on(SIX);
        Check.due("8 (", Check.tell(x, 1, "leave 0 if ((((((((free 1))))))));"), 1);
        Check.faulty(x, 1, "leave 0 if (((((((((free 1)))))))));", 5, 19);
        Check.due("8 not", Check.tell(x, 1, "leave 0 if not not not not not not not not free 1;"), 1);
        Check.due("an even number of them", x.leaves(1, 0), 1);
        Check.faulty(x, 1, "leave 0 if not not not not not not not not not free 1;", 5, 43);
        Check.due("4 and 4", Check.tell(x, 1, "leave 0 if not(not(not(not(free 1))));"), 1);
        Check.faulty(x, 1, "leave 0 if not(not(not(not((free 1)))));", 5, 27);
        Check.due("8 by turns", Check.tell(x, 1, "leave 0 if (not(not(not(not free 1))));"), 1);
        Check.faulty(x, 1, "leave 0 if (not(not(not(not not free 1))));", 5, 28);
        Check.due("one behind another", Check.tell(x, 1, "leave 0 if " + "not free 1 and ".repeat(20) + "(free 1);"), 1);
        Check.due("a ( that is shut, and 7 more in one", Check.tell(x, 1, "leave 0 if ((free 1) or (((((((free 1))))))));"), 1);
        Check.faulty(x, 1, "leave 0 if ((free 1) or ((((((((free 1)))))))));", 5, 31);
        Check.due("a not ends with its FACT", Check.tell(x, 1, "leave 0 if (((((((not free 1 and not free 2)))))));"), 1);
        Check.faulty(x, 1, "leave 0 if (((((((not free 1 and not(free 2))))))));", 5, 36);
        Check.faulty(x, 1, "leave 0 if ((((((((and", 2, 19);
        Check.faulty(x, 1, "leave 0 if ((((((((A", 1, 19);
        Check.due("a RULE is shut by its end", Check.tell(x, 1, "leave 0 if ((((((((free 1))))))));leave 1 if ((((((((free 1))))))));"), 2);
    }

    private static void controllerEmpty() {
        Check.promise("3 THE CONTROLLER is empty at first, and as a TRACK is told");
        CoasterDay x = Check.on("high 1 2 3;block 1;");
        Check.due("at first", x.count(6), 0);
        Check.due("as the next one is free", x.leaves(1, 0), 1);
        Check.tell(x, 1, "leave 0 if not free 1;");
        Check.due("a RULE", x.leaves(1, 0), 0);
        Check.tell(x, 0, "high 1 2 3;block;");
        Check.due("a TRACK with a FAULT is none that is told", x.count(6), 1);
        Check.tell(x, 0, "high 1 2 3;block 1;");
        Check.due("as a TRACK is told", x.count(6), 0);
        Check.due("as the next one is free", x.leaves(1, 0), 1);
        Check.tell(x, 1, "leave 0 if not free 1;");
        Check.tell(x, 1, "leave 1 if not free 1;");
        Check.due("one CONTROLLER in place of another", x.leaves(1, 0), 1);
    }

    private static void faultStays() {
        Check.promise("3, 4 that there was stays with a FAULT; of the latest text that was read");
        CoasterDay x = Check.on("high 1 2 3;block 1;");
        Check.tell(x, 1, "leave 0 if not free 1;");
        Check.faulty(x, 0, "high 7 8 9 9;block 1;block 2;drag 1;push 1;chain 0 to 1 speed 1;dog 0 to 1;A", 1, 75);
        int[] due = {3, 2, 0, 0, 10, 0, 1};
        for (int what = 0; what < due.length; what++) {
            Check.due("count(" + what + ")", x.count(what), due[what]);
        }
        Check.due("the first height", x.point(0, 0), 1);
        Check.due("no fourth POINT", x.point(3, 0), -2);
        Check.faulty(x, 1, "leave 0 if free 1;leave 1 if free 1 A", 1, 36);
        Check.due("RULES", x.count(6), 1);
        Check.due("the RULE", x.leaves(1, 0), 0);
        Check.due("not read: what", x.text(2, 0), -2);
        Check.due("not read: n", x.text(0, 1), -3);
        Check.due("the FAULT", x.fault(0), 1);
        Check.due("its place", x.fault(1), 36);
        Check.tell(x, 1, "");
        Check.due("without a FAULT", x.fault(0), 0);
        Check.due("without a place", x.fault(1), -1);
    }
}
