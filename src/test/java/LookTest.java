/** Promises 6 to 10: now, shares, quarter, event, instrument. */
public final class LookTest {
    private static final int LEAST = Integer.MIN_VALUE;
    private static final int MOST = Integer.MAX_VALUE;
    private static final String HEAD = "shares 100;quarter profit 10 price 11;quarter loss 20 price 22;"
            + "quarter loss 0 price 33;quarter profit 99999 price 9999;";
    private static final String YEAR = HEAD + "issue 10 20;split 20 3;buy 20 60;issue 20 5;split 359 2;"
            + "option 19 7 8;bond 20 9 0;earn 0 1 profit 5;earn 359 2 price 6;";

    public static void main(String[] args) {
        now();
        shares();
        mostShares();
        quarter();
        event();
        instrument();
        Check.finish();
    }

    private static void now() {
        DilutedDesk desk = Check.desk(YEAR);
        int[] due = {5, 4, 2, 610, 359, 0, 0};
        for (int what = 0; what < due.length; what++) {
            Check.due("now(" + what + ")", desk.now(what), due[what]);
        }
        for (int what : new int[] {-1, 7, LEAST, MOST}) {
            Check.due("now(" + what + ")", desk.now(what), -1);
        }
        desk.feed(0, 0, 0, 0, 0);
        desk.end(13);
        Check.due("now(6) with 13 bytes", desk.now(6), 13);
        desk.prices(0, 1);
        Check.due("now(5) behind a change", desk.now(5), 1);
        Check.due("now(4) with no event", Check.desk(HEAD).now(4), -1);
        Check.due("now(4) with an event on day 0", Check.desk(HEAD + "issue 0 1;").now(4), 0);
    }

    private static void shares() {
        DilutedDesk desk = Check.desk(YEAR);
        shares(desk, 0, 100, 600);
        shares(desk, 9, 100, 600);
        shares(desk, 10, 120, 720);
        shares(desk, 19, 120, 720);
        // On one DAY by order: 120 by 3, less 60, and 5 more.
        shares(desk, 20, 305, 610);
        shares(desk, 358, 305, 610);
        shares(desk, 359, 610, 610);
        for (int day : new int[] {-1, 360, LEAST, MOST}) {
            shares(desk, day, -1, -1);
        }
        DilutedDesk otherOrder = Check.desk(HEAD + "issue 20 5;buy 20 60;split 20 3;");
        shares(otherOrder, 19, 100, 300);
        shares(otherOrder, 20, 135, 135);
    }

    private static void shares(DilutedDesk desk, int day, int told, int restated) {
        Check.due("shares(" + day + ", false)", desk.shares(day, false), told);
        Check.due("shares(" + day + ", true)", desk.shares(day, true), restated);
    }

    private static void mostShares() {
        String head = HEAD.replace("shares 100", "shares 99999");
        DilutedDesk desk = Check.desk(head + "issue 0 99999;".repeat(17) + "split 1 9;".repeat(3));
        Check.due("the most shares there can be", desk.now(3), 18 * 99999 * 729);
        Check.due("restated", desk.shares(0, true), 18 * 99999 * 729);
        Check.due("their weight", desk.weight(0, 3), 360L * 18 * 99999 * 729);
    }

    private static void quarter() {
        DilutedDesk desk = Check.desk(YEAR);
        int[] profits = {10, -20, 0, 99999};
        int[] prices = {11, 22, 33, 9999};
        for (int q = 0; q < 4; q++) {
            Check.due("quarter(" + q + ", 0)", desk.quarter(q, 0), profits[q]);
            Check.due("quarter(" + q + ", 1)", desk.quarter(q, 1), prices[q]);
        }
        for (int wrong : new int[] {-1, 4, LEAST, MOST}) {
            Check.noSuch("quarter(" + wrong + ", 0)", () -> desk.quarter(wrong, 0));
        }
        for (int wrong : new int[] {-1, 2, LEAST, MOST}) {
            Check.noSuch("quarter(0, " + wrong + ")", () -> desk.quarter(0, wrong));
        }
    }

    private static void event() {
        DilutedDesk desk = Check.desk(YEAR);
        int[][] due = {{0, 10, 20}, {2, 20, 3}, {1, 20, 60}, {0, 20, 5}, {2, 359, 2}};
        for (int k = 0; k < due.length; k++) {
            for (int what = 0; what < 3; what++) {
                Check.due("event(" + k + ", " + what + ")", desk.event(k, what), due[k][what]);
            }
        }
        for (int wrong : new int[] {-1, 5, 19, 20, LEAST, MOST}) {
            Check.due("event(" + wrong + ", 0)", desk.event(wrong, 0), -1);
        }
        for (int wrong : new int[] {-1, 3, LEAST, MOST}) {
            Check.due("event(0, " + wrong + ")", desk.event(0, wrong), -1);
        }
    }

    private static void instrument() {
        DilutedDesk desk = Check.desk(YEAR);
        // OLD: a split on the INSTRUMENT's own DAY is not behind it.
        int[][] due = {{0, 19, 7, 8, 42}, {1, 20, 9, 0, 18}, {2, 0, 1, 5, 6}, {3, 359, 2, 6, 2}};
        for (int i = 0; i < due.length; i++) {
            for (int what = 0; what < 5; what++) {
                Check.due("instrument(" + i + ", " + what + ")", desk.instrument(i, what), due[i][what]);
            }
        }
        for (int wrong : new int[] {-1, 4, 8, LEAST, MOST}) {
            Check.due("instrument(" + wrong + ", 0)", desk.instrument(wrong, 0), -1);
        }
        for (int wrong : new int[] {-1, 5, LEAST, MOST}) {
            Check.due("instrument(0, " + wrong + ")", desk.instrument(0, wrong), -1);
        }
        DilutedDesk most = Check.desk(HEAD + "split 1 9;".repeat(3) + "bond 0 9999 1;");
        Check.due("the most OLD", most.instrument(0, 4), 9999 * 729);
    }
}
