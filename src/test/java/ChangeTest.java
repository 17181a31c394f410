/** Promises 20 to 24: tells, grants, earns, prices, undo. */
public final class ChangeTest {
    private static final int LEAST = Integer.MIN_VALUE;
    private static final int MOST = Integer.MAX_VALUE;
    private static final int NO_AMOUNT = -1000000000;
    private static final String HEAD = "shares 100;quarter profit 10 price 20;quarter loss 30 price 40;"
            + "quarter profit 50 price 60;quarter profit 70 price 80;";

    public static void main(String[] args) {
        tells();
        tellsNotAsTold();
        tellsNoMore();
        grants();
        grantsNotAsTold();
        grantsNoMore();
        earns();
        prices();
        undo();
        undoKeepsTen();
        onANewObject();
        Check.finish();
    }

    private static void tells() {
        DilutedDesk desk = Check.desk(HEAD + "issue 5 1;");
        Check.due("an issue on the latest day", desk.tells(0, 5, 99999), 2);
        Check.due("a purchase", desk.tells(1, 6, 99999), 3);
        Check.due("shares then", desk.now(3), 101);
        Check.due("all but one bought", desk.tells(1, 6, 100), 4);
        Check.due("a split", desk.tells(2, 359, 9), 5);
        Check.due("shares at the end", desk.now(3), 9);
        int[][] due = {{0, 5, 1}, {0, 5, 99999}, {1, 6, 99999}, {1, 6, 100}, {2, 359, 9}};
        for (int k = 0; k < due.length; k++) {
            for (int what = 0; what < 3; what++) {
                Check.due("event(" + k + ", " + what + ")", desk.event(k, what), due[k][what]);
            }
        }
    }

    private static void tellsNotAsTold() {
        DilutedDesk desk = Check.desk(HEAD + "issue 5 1;");
        int[][] wrong = {
            {-1, 5, 1}, {3, 5, 2}, {LEAST, 5, 2}, {MOST, 5, 2},
            {0, 4, 1}, {0, -1, 1}, {0, 360, 1}, {0, LEAST, 1}, {0, MOST, 1},
            {0, 5, 0}, {0, 5, -1}, {0, 5, 100000}, {0, 5, LEAST}, {0, 5, MOST},
            {1, 5, 0}, {1, 5, 101}, {1, 5, 100000}, {1, 5, LEAST}, {1, 5, MOST},
            {2, 5, 1}, {2, 5, 10}, {2, 5, LEAST}, {2, 5, MOST},
        };
        for (int[] w : wrong) {
            Check.due("tells(" + w[0] + ", " + w[1] + ", " + w[2] + ")", desk.tells(w[0], w[1], w[2]), -1);
        }
        Check.due("refused ones do not come", desk.now(0), 1);
        Check.due("refused ones can't be undone", desk.now(5), 0);
        DilutedDesk many = Check.desk(HEAD + "issue 5 99999;issue 5 99999;");
        Check.due("more than 99999 bought", many.tells(1, 5, 100000), -1);
    }

    private static void tellsNoMore() {
        DilutedDesk desk = Check.desk(HEAD + "split 5 2;".repeat(3) + "issue 5 1;".repeat(16));
        Check.due("a fourth split", desk.tells(2, 5, 2), -2);
        Check.due("the 20th event", desk.tells(1, 5, 1), 20);
        Check.due("the 21st event", desk.tells(0, 5, 1), -2);
        Check.due("the 21st event, a purchase", desk.tells(1, 5, 1), -2);
        Check.due("not as told comes first", desk.tells(0, 4, 1), -1);
        Check.due("not as told comes first, a split", desk.tells(2, 5, 10), -1);
        Check.due("events", desk.now(0), 20);
        Check.due("what can be undone", desk.now(5), 1);
    }

    private static void grants() {
        DilutedDesk desk = Check.desk(HEAD + "issue 300 1;bond 9 9 9;");
        int[][] due = {{1, 9, 9, 9}, {0, 0, 9999, 9999}, {0, 359, 1, 1}, {1, 1, 1, 0}, {1, 1, 1, 99999},
            {2, 2, 2, 0}, {2, 2, 2, 99999}, {3, 3, 3, 99999}};
        for (int i = 1; i < due.length; i++) {
            int[] d = due[i];
            Check.due("grants of number " + i, desk.grants(d[0], d[1], d[2], d[3]), i);
        }
        for (int i = 0; i < due.length; i++) {
            for (int what = 0; what < 4; what++) {
                Check.due("instrument(" + i + ", " + what + ")", desk.instrument(i, what), due[i][what]);
            }
        }
    }

    private static void grantsNotAsTold() {
        DilutedDesk desk = Check.desk(HEAD);
        int[][] wrong = {
            {-1, 1, 1, 1}, {4, 1, 1, 1}, {LEAST, 1, 1, 1}, {MOST, 1, 1, 1},
            {0, -1, 1, 1}, {1, 360, 1, 1}, {2, LEAST, 1, 1}, {3, MOST, 1, 1},
            {0, 1, 0, 1}, {1, 1, 10000, 1}, {2, 1, LEAST, 1}, {3, 1, MOST, 1},
            {0, 1, 1, 0}, {0, 1, 1, 10000}, {1, 1, 1, -1}, {1, 1, 1, 100000},
            {2, 1, 1, -1}, {2, 1, 1, 100000}, {3, 1, 1, -1}, {3, 1, 1, 100000},
            {0, 1, 1, LEAST}, {1, 1, 1, MOST},
        };
        for (int[] w : wrong) {
            Check.due("grants(" + w[0] + ", " + w[1] + ", " + w[2] + ", " + w[3] + ")",
                    desk.grants(w[0], w[1], w[2], w[3]), -1);
        }
        Check.due("refused ones do not come", desk.now(1), 0);
        Check.due("refused ones can't be undone", desk.now(5), 0);
    }

    private static void grantsNoMore() {
        DilutedDesk desk = Check.desk(HEAD + "bond 1 1 1;".repeat(7));
        Check.due("the eighth", desk.grants(3, 1, 1, 1), 7);
        for (int sort = 0; sort < 4; sort++) {
            Check.due("a ninth", desk.grants(sort, 1, 1, 1), -2);
        }
        Check.due("not as told comes first", desk.grants(0, 1, 1, 0), -1);
        Check.due("instruments", desk.now(1), 8);
    }

    private static void earns() {
        DilutedDesk desk = Check.desk(HEAD);
        Check.due("earns(1, 99999)", desk.earns(1, 99999), -30);
        Check.due("earns(1, -99999)", desk.earns(1, -99999), 99999);
        Check.due("earns(1, 5)", desk.earns(1, 5), -99999);
        Check.due("profit then", desk.quarter(1, 0), 5);
        Check.due("the others stay", desk.quarter(0, 0), 10);
        for (int wrong : new int[] {100000, -100000, LEAST, MOST}) {
            Check.due("earns(0, " + wrong + ")", desk.earns(0, wrong), NO_AMOUNT);
        }
        for (int wrong : new int[] {-1, 4, LEAST, MOST}) {
            Check.due("earns(" + wrong + ", 0)", desk.earns(wrong, 0), NO_AMOUNT);
        }
        Check.due("what can be undone", desk.now(5), 3);
    }

    private static void prices() {
        DilutedDesk desk = Check.desk(HEAD);
        Check.due("prices(3, 9999)", desk.prices(3, 9999), 80);
        Check.due("prices(3, 1)", desk.prices(3, 1), 9999);
        Check.due("price then", desk.quarter(3, 1), 1);
        Check.due("the others stay", desk.quarter(0, 1), 20);
        for (int wrong : new int[] {0, 10000, -1, LEAST, MOST}) {
            Check.due("prices(0, " + wrong + ")", desk.prices(0, wrong), -1);
        }
        for (int wrong : new int[] {-1, 4, LEAST, MOST}) {
            Check.due("prices(" + wrong + ", 5)", desk.prices(wrong, 5), -1);
        }
        Check.due("what can be undone", desk.now(5), 2);
    }

    private static void undo() {
        DilutedDesk desk = Check.desk(HEAD);
        Check.due("undo() of nothing", desk.undo(), -1);
        desk.tells(2, 100, 2);
        desk.grants(0, 1, 2, 3);
        desk.earns(2, -7);
        desk.prices(2, 7);
        desk.earns(2, -7);
        Check.due("a change to the same is one", desk.now(5), 5);
        Check.due("undo() 1", desk.undo(), 4);
        Check.due("profit stays", desk.quarter(2, 0), -7);
        Check.due("undo() 2", desk.undo(), 3);
        Check.due("price is as before", desk.quarter(2, 1), 60);
        Check.due("undo() 3", desk.undo(), 2);
        Check.due("profit is as before", desk.quarter(2, 0), 50);
        Check.due("undo() 4", desk.undo(), 1);
        Check.due("the instrument is gone", desk.instrument(0, 0), -1);
        Check.due("undo() 5", desk.undo(), 0);
        Check.due("the event is gone", desk.event(0, 0), -1);
        Check.due("shares are as before", desk.now(3), 100);
        Check.due("undo() 6", desk.undo(), -1);
        desk.tells(0, 50, 5);
        Check.due("an earlier event can come again", desk.event(0, 1), 50);
    }

    private static void undoKeepsTen() {
        DilutedDesk desk = Check.desk(HEAD);
        for (int v = 1; v <= 13; v++) {
            desk.earns(0, v * 100);
            Check.due("kept behind " + v, desk.now(5), Math.min(v, 10));
        }
        for (int left = 9; left >= 0; left--) {
            Check.due("undo() to " + left, desk.undo(), left);
            Check.due("profit then", desk.quarter(0, 0), (left + 3) * 100);
        }
        Check.due("the eleventh is not kept", desk.undo(), -1);
        Check.due("profit at the end", desk.quarter(0, 0), 300);
        desk.prices(1, 5);
        Check.due("one again", desk.undo(), 0);
        Check.due("price then", desk.quarter(1, 1), 40);
    }

    private static void onANewObject() {
        DilutedDesk desk = new DilutedDesk();
        Check.due("the one share can't be bought", desk.tells(1, 0, 1), -1);
        Check.due("an issue", desk.tells(0, 0, 1), 1);
        Check.due("one of two is bought", desk.tells(1, 0, 1), 2);
        Check.due("a grant", desk.grants(1, 0, 1, 0), 0);
        Check.due("earns", desk.earns(3, 1), 0);
        Check.due("prices", desk.prices(3, 2), 1);
        Check.due("undo()", desk.undo(), 4);
    }
}
