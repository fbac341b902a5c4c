/** What the project's tests share: telling texts to an object, and comparing answers. */
final class Check {
    private static int wrong = 0;
    private static int made = 0;
    private static String part = "";

    private Check() {
    }

    static void promise(String name) {
        part = name;
    }

    static void due(String call, long got, long want) {
        made++;
        if (got != want) {
            wrong++;
            System.out.println(part + ": " + call + " answered " + got + ", due is " + want);
        }
    }

    /** Ends the test: exit code 1 if an answer was wrong. */
    static void end() {
        System.out.println(wrong == 0 ? made + " answers are as due" : wrong + " of " + made + " answers are not as due");
        if (wrong != 0) {
            System.exit(1);
        }
    }

    /** Feeds a text, filled up with blanks to twenty bytes a call; answers its length. */
    static int feed(CoasterDay x, String text) {
        for (int at = 0; at < text.length(); at += 20) {
            int[] v = twenty(text, at);
            x.feed(v[0], v[1], v[2], v[3], v[4]);
        }
        return text.length();
    }

    /** Twenty bytes of a text as feed() takes them, blanks behind its end. */
    static int[] twenty(String text, int at) {
        return new int[] {four(text, at), four(text, at + 4), four(text, at + 8), four(text, at + 12), four(text, at + 16)};
    }

    private static int four(String text, int at) {
        int packed = 0;
        for (int i = at; i < at + 4; i++) {
            packed = packed << 8 | (i < text.length() ? text.charAt(i) & 255 : ' ');
        }
        return packed;
    }

    static int tell(CoasterDay x, int what, String text) {
        return x.text(what, feed(x, text));
    }

    /** A new object with a TRACK. */
    static CoasterDay on(String track) {
        CoasterDay x = new CoasterDay();
        int told = tell(x, 0, track);
        if (told < 2) {
            due("text(0) of " + track, told, 2);
        }
        return x;
    }

    /** A text with a FAULT: its answer, kind and place. */
    static void faulty(CoasterDay x, int what, String text, int kind, int place) {
        due("text(" + what + ") of " + text, tell(x, what, text), -10 - kind);
        due("fault(0) of " + text, x.fault(0), kind);
        due("fault(1) of " + text, x.fault(1), place);
    }
}
