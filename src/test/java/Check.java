/** What the tests share: answers compared, wrong ones told, a text put on a desk's tape. */
final class Check {
    interface Call {
        long answer();
    }

    private static int wrong = 0;
    private static String sentence = "";

    private Check() {
    }

    /** The document's words that the checks behind this are about: told with each wrong answer. */
    static void sentence(String words) {
        sentence = "[" + words + "] ";
    }

    private static void tellWrong(String what) {
        wrong++;
        System.out.println(sentence + what);
    }

    static void due(String call, long got, long want) {
        if (got != want) {
            tellWrong(call + " answered " + got + ", due is " + want);
        }
    }

    static void same(String what, String got, String want) {
        if (!got.equals(want)) {
            tellWrong(what + " is " + got + ", due is " + want);
        }
    }

    static void due(String call, boolean got, boolean want) {
        due(call, got ? 1 : 0, want ? 1 : 0);
    }

    static void noSuch(String call, Call made) {
        try {
            long got = made.answer();
            tellWrong(call + " answered " + got + ", due is a NoSuchElementException");
        } catch (java.util.NoSuchElementException e) {
            // due
        }
    }

    /** Puts the bytes of a text behind those of the tape: whole feeds, then end(). */
    static void feed(DilutedDesk desk, String text) {
        int had = desk.now(6);
        int due = had + text.length();
        for (int at = 0; at < text.length(); at += 20) {
            int[] five = new int[5];
            for (int k = 0; k < 20; k++) {
                int sign = at + k < text.length() ? text.charAt(at + k) & 255 : 0;
                five[k / 4] |= sign << 24 - k % 4 * 8;
            }
            due("feed of a text", desk.feed(five[0], five[1], five[2], five[3], five[4]), had + at + 20);
        }
        due("end of a text", desk.end(due), true);
    }

    static int tell(DilutedDesk desk, String text) {
        feed(desk, text);
        return desk.text();
    }

    static DilutedDesk desk(String text) {
        DilutedDesk desk = new DilutedDesk();
        int answer = tell(desk, text);
        if (answer < 0) {
            tellWrong("a text that should be told has a fault at " + (-1 - answer) + ": " + text);
        }
        return desk;
    }

    /** A text that is as told; the desk that it was told to. */
    static DilutedDesk good(String text, int lines) {
        DilutedDesk desk = new DilutedDesk();
        due("text() of " + text, tell(desk, text), lines);
        due("fault() of " + text, desk.fault(), 0);
        due("bytes behind " + text, desk.now(6), 0);
        return desk;
    }

    static void bad(String text, int place, int kind) {
        DilutedDesk desk = new DilutedDesk();
        due("text() of " + text, tell(desk, text), -1 - place);
        due("fault() of " + text, desk.fault(), kind);
        due("bytes behind " + text, desk.now(6), 0);
    }

    /** The fault is told by a bar ahead of the TOKEN where it is due. */
    static void badAt(String marked, int kind) {
        int place = marked.indexOf('|');
        bad(marked.substring(0, place) + marked.substring(place + 1), place, kind);
    }

    /** All that a desk holds, but for its tape and its latest fault, to see that a call leaves it. */
    static String state(DilutedDesk desk) {
        return year(desk) + ", to be undone " + desk.now(5);
    }

    static String year(DilutedDesk desk) {
        StringBuilder told = new StringBuilder();
        for (int what = 0; what < 5; what++) {
            told.append(desk.now(what)).append(' ');
        }
        told.append("shares ").append(desk.shares(0, false)).append(" quarters");
        for (int quarter = 0; quarter < 4; quarter++) {
            told.append(' ').append(desk.quarter(quarter, 0)).append('/').append(desk.quarter(quarter, 1));
        }
        for (int k = 0; k < desk.now(0); k++) {
            told.append(" event ").append(desk.event(k, 0)).append('/').append(desk.event(k, 1));
            told.append('/').append(desk.event(k, 2));
        }
        for (int i = 0; i < desk.now(1); i++) {
            told.append(" instrument ").append(desk.instrument(i, 0)).append('/').append(desk.instrument(i, 1));
            told.append('/').append(desk.instrument(i, 2)).append('/').append(desk.instrument(i, 3));
        }
        return told.toString();
    }

    /** Ends the test, with exit code 1 if an answer was wrong. */
    static void finish() {
        System.out.println(wrong == 0 ? "all answers are as due" : wrong + " answers are not as due");
        if (wrong != 0) {
            System.exit(1);
        }
    }
}
