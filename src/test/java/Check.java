/** What the tests share: answers compared, wrong ones told, a text put on a desk's tape. */
final class Check {
    interface Call {
        long answer();
    }

    private static int wrong = 0;

    private Check() {
    }

    static void due(String call, long got, long want) {
        if (got != want) {
            wrong++;
            System.out.println(call + " answered " + got + ", due is " + want);
        }
    }

    static void due(String call, boolean got, boolean want) {
        due(call, got ? 1 : 0, want ? 1 : 0);
    }

    static void noSuch(String call, Call made) {
        try {
            long got = made.answer();
            wrong++;
            System.out.println(call + " answered " + got + ", due is a NoSuchElementException");
        } catch (java.util.NoSuchElementException e) {
            // due
        }
    }

    /** Puts the bytes of a text behind those of the tape: whole feeds, then end(). */
    static void feed(DilutedDesk desk, String text) {
        int had = desk.now(6);
        int due = had + text.length();
        for (int at = 0; at < text.length(); at += 20) {
            int[] five = new int[5];
            for (int k = 0; k < 20; k++) {
                int sign = at + k < text.length() ? text.charAt(at + k) & 255 : 0;
                five[k / 4] |= sign << 24 - k % 4 * 8;
            }
            due("feed of a text", desk.feed(five[0], five[1], five[2], five[3], five[4]), had + at + 20);
        }
        due("end of a text", desk.end(due), true);
    }

    static int tell(DilutedDesk desk, String text) {
        feed(desk, text);
        return desk.text();
    }

    static DilutedDesk desk(String text) {
        DilutedDesk desk = new DilutedDesk();
        int answer = tell(desk, text);
        if (answer < 0) {
            wrong++;
            System.out.println("a text that should be told has a fault at " + (-1 - answer) + ": " + text);
        }
        return desk;
    }

    /** Ends the test, with exit code 1 if an answer was wrong. */
    static void finish() {
        System.out.println(wrong == 0 ? "all answers are as due" : wrong + " answers are not as due");
        if (wrong != 0) {
            System.exit(1);
        }
    }
}
