/** Promises 15 to 19: without, with, priced, profit, ifSplit; none of them changes anything. */
public final class WhatIfTest {
    private static final int LEAST = Integer.MIN_VALUE;
    private static final int MOST = Integer.MAX_VALUE;
    private static final int NO_AMOUNT = -1000000000;
    private static final String HEAD = "shares 100;quarter profit 1000 price 20;quarter profit 500 price 10;"
            + "quarter loss 300 price 10;quarter profit 800 price 40;";
    private static final String YEAR = HEAD + "issue 100 50;option 0 100 15;bond 0 100 4000;earn 90 50 profit 1200;"
            + "earn 0 20 price 40;";

    public static void main(String[] args) {
        noSuchRuns();
        without();
        with();
        priced();
        profit();
        profitOfOtherQuarters();
        ifSplit();
        nothingChanges();
        Check.finish();
    }

    private static void noSuchRuns() {
        DilutedDesk desk = Check.desk(YEAR);
        int[][] runs = {{-1, 0}, {0, 4}, {1, 0}, {4, 4}, {LEAST, MOST}, {MOST, LEAST}};
        for (int[] run : runs) {
            int from = run[0];
            int to = run[1];
            String told = " of " + from + " to " + to;
            Check.noSuch("without" + told, () -> desk.without(0, from, to));
            Check.noSuch("with" + told, () -> desk.with(0, from, to));
            Check.noSuch("priced" + told, () -> desk.priced(0, 1, from, to));
            Check.noSuch("profit" + told, () -> desk.profit(0, 0, from, to));
            Check.noSuch("ifSplit" + told, () -> desk.ifSplit(2, from, to));
            // With other wrong arguments, too, no such RUN comes first.
            Check.noSuch("without none" + told, () -> desk.without(9, from, to));
            Check.noSuch("with none" + told, () -> desk.with(-1, from, to));
            Check.noSuch("priced at 0" + told, () -> desk.priced(0, 0, from, to));
            Check.noSuch("profit of none" + told, () -> desk.profit(4, 9, from, to));
            Check.noSuch("ifSplit by 1" + told, () -> desk.ifSplit(1, from, to));
        }
    }

    private static void without() {
        DilutedDesk desk = Check.desk(YEAR);
        // Quarter 0: 1000 by 9000; the option adds 100 * 90 * 5 / 20 = 2250, the bond 1000 and 9000.
        Check.due("diluted", desk.run(0, 0, 2), 1000 * 90000 / 11250);
        Check.due("set", desk.run(0, 0, 3), 1);
        Check.due("without the option", desk.without(0, 0, 0), 1000 * 90000 / 9000);
        Check.due("without the bond, which is not in", desk.without(1, 0, 0), 8000);
        Check.due("without one that adds nothing", desk.without(3, 0, 0), 8000);
        for (int wrong : new int[] {-1, 4, 8, LEAST, MOST}) {
            Check.due("without(" + wrong + ")", desk.without(wrong, 0, 0), NO_AMOUNT);
        }
        // One less can let another in: behind bond 0 (10 to 5.5) bond 1, of 7 a share, is no loss, alone it is.
        DilutedDesk chain = Check.desk(HEAD + "bond 0 100 400;bond 0 100 2800;");
        Check.due("with both there", chain.run(0, 0, 2), 1100 * 1000 / 200);
        Check.due("without bond 0 bond 1 is in", chain.without(0, 0, 0), 1700 * 1000 / 200);
    }

    private static void with() {
        DilutedDesk desk = Check.desk(YEAR);
        Check.due("with none", desk.with(0, 0, 0), 10000);
        Check.due("with the option", desk.with(1, 0, 0), 8000);
        Check.due("with the bond", desk.with(2, 0, 0), 2000 * 90000 / 18000);
        Check.due("with both", desk.with(3, 0, 0), 2000 * 90000 / 20250);
        Check.due("with one that adds nothing", desk.with(8, 0, 0), 10000);
        Check.due("with all", desk.with(15, 0, 0), 2000 * 90000 / 20250);
        for (int wrong : new int[] {16, 17, 256, -1, LEAST, MOST}) {
            Check.due("with(" + wrong + ")", desk.with(wrong, 0, 0), NO_AMOUNT);
        }
        // A loss by quarter 2, 150 shares: taken in whatever they do.
        Check.due("with nothing in a loss", desk.with(0, 2, 2), -2000);
        Check.due("with earn in a loss", desk.with(4, 2, 2), -300 * 90000 / 18000);
        Check.due("with the bond in a loss", desk.with(2, 2, 2), 700 * 90000 / 22500);
        DilutedDesk eight = Check.desk(HEAD + "earn 0 100 price 0;".repeat(8));
        Check.due("with all eight", eight.with(255, 0, 0), 1000 * 1000 / 900);
        Check.due("with a ninth", eight.with(256, 0, 0), NO_AMOUNT);
        DilutedDesk far = Check.desk(HEAD + "earn 0 10 profit 99999;");
        Check.due("with one whose profit is not reached", far.with(1, 0, 0), 10000);
        DilutedDesk none = Check.desk(HEAD);
        Check.due("with none of none", none.with(0, 0, 0), 10000);
        Check.due("with one of none", none.with(1, 0, 0), NO_AMOUNT);
    }

    private static void priced() {
        DilutedDesk desk = Check.desk(YEAR);
        Check.due("at the same price", desk.priced(0, 20, 0, 0), 8000);
        Check.due("at 30", desk.priced(0, 30, 0, 0), 1000 * 90000 / (9000 + 4500));
        Check.due("at 15", desk.priced(0, 15, 0, 0), 10000);
        // At 40 the earn is in, too: 20 * 90.
        Check.due("at 40", desk.priced(0, 40, 0, 0), 1000 * 90000 / (9000 + 5625 + 1800));
        Check.due("of another quarter", desk.priced(1, 9999, 0, 0), 8000);
        Check.due("at 9999", desk.priced(0, 9999, 0, 0), 1000L * 90000 / (9000 + 9000L * 9984 / 9999 + 1800));
        Check.due("at 1", desk.priced(0, 1, 0, 0), 10000);
        for (int wrong : new int[] {0, 10000, -1, LEAST, MOST}) {
            Check.due("priced at " + wrong, desk.priced(0, wrong, 0, 0), NO_AMOUNT);
        }
        for (int wrong : new int[] {-1, 4, LEAST, MOST}) {
            Check.due("priced of " + wrong, desk.priced(wrong, 5, 0, 0), NO_AMOUNT);
        }
    }

    private static void profit() {
        DilutedDesk desk = Check.desk(YEAR);
        // The option is in as soon as there is a profit; the bond's HARM is 1000 by 9000.
        Check.due("for the option", desk.profit(0, 0, 0, 0), 100);
        // E by 11250 above 1000 by 9000: E above 1250.
        Check.due("for the bond", desk.profit(0, 1, 0, 0), 1300);
        Check.due("for one that never adds", desk.profit(0, 3, 0, 0), -2);
        Check.due("for one not yet granted", desk.profit(0, 2, 0, 0), -2);
        // Quarter 1's earn needs 1200 in two quarters, 1000 are there: 200, and it is in by profit 200.
        Check.due("for the earn", desk.profit(1, 2, 1, 1), 200);
        Check.due("for the earn by quarter 0", desk.profit(0, 2, 1, 1), 700);
        for (int wrong : new int[] {-1, 4, LEAST, MOST}) {
            Check.due("profit of quarter " + wrong, desk.profit(wrong, 0, 0, 0), -1);
            Check.due("profit for " + wrong, desk.profit(0, wrong, 0, 0), -1);
        }
        DilutedDesk high = Check.desk(HEAD + "earn 0 1 profit 99900;earn 0 1 profit 99901;bond 0 1 99999;");
        Check.due("the most that is tried", high.profit(0, 0, 0, 0), 99900);
        Check.due("more than is tried", high.profit(0, 1, 0, 0), -2);
        DilutedDesk dear = Check.desk(HEAD + "bond 0 1 99999;");
        Check.due("a bond too dear", dear.profit(0, 0, 0, 0), -2);
    }

    private static void profitOfOtherQuarters() {
        DilutedDesk desk = Check.desk(YEAR);
        // A quarter outside of the RUN can still let an earn in, and none else.
        Check.due("the option is in already", desk.profit(3, 0, 0, 0), 0);
        Check.due("the bond is not", desk.profit(3, 1, 0, 0), -2);
        Check.due("a later quarter does not count", desk.profit(2, 2, 1, 1), 0);
        DilutedDesk early = Check.desk(HEAD + "earn 0 1 profit 5000;");
        Check.due("a later quarter can't help", early.profit(2, 0, 1, 1), -2);
        Check.due("an earlier can", early.profit(0, 0, 1, 1), 4500);
        Check.due("one of the run can", early.profit(1, 0, 0, 1), 4000);
        // A RUN that the quarter is not in keeps its EARNINGS to the last one: 1000 by 9000.
        DilutedDesk edges = Check.desk(HEAD + "earn 0 1 profit 1000;earn 0 1 profit 1001;");
        Check.due("just reached", edges.profit(3, 0, 0, 0), 0);
        Check.due("one too few", edges.profit(3, 1, 0, 0), -2);
        Check.due("harm as high as earnings", Check.desk(HEAD + "bond 0 1 40;").profit(3, 0, 0, 0), -2);
        Check.due("harm just below", Check.desk(HEAD + "bond 0 100 3996;").profit(3, 0, 0, 0), 0);
        // Here more profit lets another in ahead, and then the bond is out until there is far more.
        DilutedDesk other = Check.desk(HEAD + "earn 0 900 profit 1500;bond 0 100 4800;");
        Check.due("before the earn", other.profit(0, 1, 0, 0), 1300);
        other.earns(0, 1500);
        Check.due("with the earn it is out", other.run(0, 0, 3), 1);
    }

    private static void ifSplit() {
        DilutedDesk desk = Check.desk(YEAR);
        // The split of DAY 100 is behind quarter 0: the option's price stays, WEIGHTS double.
        Check.due("a split", desk.ifSplit(2, 0, 0), 1000 * 90000 / 22500);
        Check.due("a split by 9", desk.ifSplit(9, 0, 0), 1000 * 90000 / (9 * 11250));
        // Quarter 1: P 10 by 2 is above 15 then: 200 * 90 * 5 / 20; 200 and from DAY 100 300 shares; earn 100 * 90.
        Check.due("a split in quarter 1", desk.ifSplit(2, 1, 1),
                500 * 90000 / (200 * 10 + 300 * 80 + 4500 + 9000));
        for (int wrong : new int[] {1, 10, 0, -2, LEAST, MOST}) {
            Check.due("ifSplit by " + wrong, desk.ifSplit(wrong, 0, 0), NO_AMOUNT);
        }
        DilutedDesk quiet = Check.desk(HEAD + "option 0 1 15;");
        // On DAY 0, with no EVENT, it is not behind an INSTRUMENT of DAY 0.
        Check.due("a split on day 0", quiet.ifSplit(2, 0, 0), 1000L * 90000 / (18000 + 90 * 5 / 20));
        DilutedDesk splits = Check.desk(HEAD + "split 5 2;split 5 2;");
        Check.due("a third split", splits.ifSplit(2, 0, 0), 1000 * 1000 / 800);
        splits.tells(2, 5, 2);
        Check.due("a fourth split", splits.ifSplit(2, 0, 0), NO_AMOUNT);
        DilutedDesk full = Check.desk(HEAD + "issue 5 1;".repeat(19));
        Check.due("a 20th event", full.ifSplit(2, 3, 3), 800 * 1000 / 238);
        full.tells(0, 5, 1);
        Check.due("a 21st event", full.ifSplit(2, 3, 3), NO_AMOUNT);
    }

    private static void nothingChanges() {
        DilutedDesk desk = Check.desk(YEAR);
        desk.earns(3, 801);
        desk.without(0, 0, 3);
        desk.with(7, 0, 3);
        desk.priced(0, 77, 0, 3);
        desk.profit(0, 1, 0, 3);
        desk.ifSplit(3, 0, 3);
        Check.due("events", desk.now(0), 1);
        Check.due("splits", desk.now(2), 0);
        Check.due("instruments", desk.now(1), 4);
        Check.due("price", desk.quarter(0, 1), 20);
        Check.due("profit", desk.quarter(0, 0), 1000);
        Check.due("what can be undone", desk.now(5), 1);
        Check.due("set", desk.run(0, 0, 3), 1);
    }
}
