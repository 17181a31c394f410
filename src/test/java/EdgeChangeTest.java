/** The edges of promises 15 to 24: each sentence that names one, at it and at the case next to it. */
public final class EdgeChangeTest {
    private static final int LEAST = Integer.MIN_VALUE;
    private static final int MOST = Integer.MAX_VALUE;
    private static final int NO_AMOUNT = -1000000000;
    private static final String HEAD = "shares 100;quarter profit 100 price 10;quarter loss 20 price 20;"
            + "quarter profit 30 price 30;quarter profit 40 price 40;";

    public static void main(String[] args) {
        noSuchRuns();
        withoutNoSuchOne();
        withoutOneThere();
        withSomeAreNone();
        withWhateverTheyAdd();
        pricedNoSuchOnes();
        pricedAtTheEdges();
        profitNoSuchOnes();
        profitLeastAndMost();
        profitStep();
        profitOfAnyQuarter();
        profitOfAQuarterOutside();
        profitByNone();
        ifSplitAnotherA();
        ifSplitThreeSplits();
        ifSplitTwentyEvents();
        ifSplitDay();
        whatIfChangesNothing();
        tellsSorts();
        tellsDays();
        tellsNumbers();
        tellsFewerThanThereAre();
        tellsTwentyAndThree();
        tellsRefusedChangesNothing();
        grantsSorts();
        grantsDays();
        grantsNumbers();
        grantsEight();
        grantsRefusedChangesNothing();
        earnsAtTheEdges();
        earnsRefusedChangesNothing();
        pricesAtTheEdges();
        pricesRefusedChangesNothing();
        undoTheLatest();
        undoThatWasDone();
        undoHowManyMore();
        undoTenAtMost();
        undoNone();
        undoMakesRoom();
        Check.finish();
    }

    private static void noSuchRuns() {
        Check.sentence("throws NoSuchElementException (no such RUN)");
        DilutedDesk desk = Check.desk(HEAD + "bond 0 1 1;");
        int[][] none = {{-1, -1}, {-1, 0}, {0, -1}, {0, 4}, {1, 0}, {3, 2}, {3, 4}, {4, 4}, {LEAST, MOST},
            {MOST, LEAST}};
        for (int[] run : none) {
            int from = run[0];
            int to = run[1];
            String told = " from " + from + " to " + to;
            Check.noSuch("without" + told, () -> desk.without(0, from, to));
            Check.noSuch("with" + told, () -> desk.with(0, from, to));
            Check.noSuch("priced" + told, () -> desk.priced(0, 1, from, to));
            Check.noSuch("profit" + told, () -> desk.profit(0, 0, from, to));
            Check.noSuch("ifSplit" + told, () -> desk.ifSplit(2, from, to));
        }
        for (int from = 0; from < 4; from++) {
            for (int to = from; to < 4; to++) {
                Check.due("without is one", desk.without(0, from, to) > NO_AMOUNT, true);
                Check.due("with is one", desk.with(0, from, to) > NO_AMOUNT, true);
                Check.due("priced is one", desk.priced(0, 1, from, to) > NO_AMOUNT, true);
                Check.due("profit is one", desk.profit(0, 0, from, to) != -1, true);
                Check.due("ifSplit is one", desk.ifSplit(2, from, to) > NO_AMOUNT, true);
            }
        }
    }

    private static void withoutNoSuchOne() {
        Check.sentence("without: NONE - 999999999: no such one");
        DilutedDesk desk = Check.desk(HEAD + "earn 0 100 price 0;".repeat(7));
        Check.due("without(0)", desk.without(0, 0, 0), 100000 / 700);
        Check.due("without(6)", desk.without(6, 0, 0), 100000 / 700);
        for (int i : new int[] {-1, 7, 8, LEAST, MOST}) {
            Check.due("without(" + i + ")", desk.without(i, 0, 0), NO_AMOUNT);
        }
        desk.grants(3, 0, 100, 0);
        Check.due("without(7)", desk.without(7, 0, 0), 100000 / 800);
        Check.due("without(8)", desk.without(8, 0, 0), NO_AMOUNT);
        Check.due("without(0) of none", Check.desk(HEAD).without(0, 0, 0), NO_AMOUNT);
    }

    private static void withoutOneThere() {
        Check.sentence("DILUTED of a RUN, were an INSTRUMENT not there");
        // Bond 0 ends it at 4 a share; were it not there, bond 1 of as much would end it, too.
        DilutedDesk like = Check.desk(HEAD + "bond 0 100 400;bond 0 100 400;");
        Check.due("DILUTED", like.run(0, 0, 2), 1000);
        Check.due("without the one that ended it", like.without(0, 0, 0), 1000);
        // 100 by 100 shares, 50 by 100 more: 0.75. Bond 1 of 0.75 is out, without bond 0 it is in: 175 by 200.
        DilutedDesk next = Check.desk(HEAD + "bond 0 100 200;bond 0 100 300;");
        Check.due("DILUTED", next.run(0, 0, 2), 750);
        Check.due("without bond 0", next.without(0, 0, 0), 875);
        Check.due("without bond 1", next.without(1, 0, 0), 750);
        DilutedDesk one = Check.desk(HEAD + "earn 0 100 price 0;");
        Check.due("without the only one", one.without(0, 0, 0), 1000);
        Check.due("in a loss", one.without(0, 1, 1), -200);
    }

    private static void withSomeAreNone() {
        Check.sentence("with: NONE - 999999999: some are none");
        for (int count = 0; count <= 8; count++) {
            DilutedDesk desk = Check.desk(HEAD + "earn 0 100 price 0;".repeat(count));
            int all = (1 << count) - 1;
            Check.due("with none of " + count, desk.with(0, 0, 0), 1000);
            Check.due("with all of " + count, desk.with(all, 0, 0), 100000 / (100 + 100 * count));
            Check.due("with one more than " + count, desk.with(all + 1, 0, 0), NO_AMOUNT);
            Check.due("with the highest bit", desk.with(LEAST, 0, 0), NO_AMOUNT);
            Check.due("with a high bit", desk.with(1 << 30, 0, 0), NO_AMOUNT);
            Check.due("with all bits", desk.with(-1, 0, 0), NO_AMOUNT);
            Check.due("with all but the highest", desk.with(MOST, 0, 0), NO_AMOUNT);
            if (count > 0) {
                Check.due("with the last of " + count, desk.with(1 << count - 1, 0, 0), 500);
                Check.due("with the last and one more", desk.with(3 << count - 1, 0, 0), NO_AMOUNT);
            }
        }
    }

    private static void withWhateverTheyAdd() {
        Check.sentence("with just a set of INSTRUMENTS (bits) taken in, whatever they ADD");
        // A bond that makes it more, one that ADDS nothing yet, and shares in a loss.
        DilutedDesk desk = Check.desk(HEAD + "bond 0 100 4000;bond 90 100 4000;earn 0 100 price 0;"
                + "earn 0 1 profit 101;");
        Check.due("one that makes it more", desk.with(1, 0, 0), 1100 * 1000 / 200);
        Check.due("one that ADDS nothing", desk.with(2, 0, 0), 1000);
        Check.due("one whose T is not reached", desk.with(8, 0, 0), 1000);
        Check.due("one in a loss", desk.with(4, 1, 1), -100);
        Check.due("none in a loss", desk.with(0, 1, 1), -200);
        Check.due("all", desk.with(15, 0, 0), 1100 * 1000 / 300);
        DilutedDesk first = Check.desk(HEAD + "earn 0 100 profit 101;earn 0 100 profit 100;");
        Check.due("the first's T is not reached", first.with(1, 0, 0), 1000);
        Check.due("the second's is", first.with(3, 0, 0), 500);
        // -20 by 100 and 33 shares is -150.37.
        Check.due("rounded down", Check.desk(HEAD + "earn 0 33 price 0;").with(1, 1, 1), -151);
    }

    private static void pricedNoSuchOnes() {
        Check.sentence("priced: NONE - 999999999: no such ones");
        DilutedDesk desk = Check.desk(HEAD + "earn 0 100 price 9999;");
        for (int q = 0; q < 4; q++) {
            Check.due("priced(" + q + ", 1)", desk.priced(q, 1, 0, 0), 1000);
        }
        for (int q : new int[] {-1, 4, LEAST, MOST}) {
            Check.due("priced(" + q + ", 1)", desk.priced(q, 1, 0, 0), NO_AMOUNT);
        }
        for (int v : new int[] {0, -1, 10000, LEAST, MOST}) {
            Check.due("priced(0, " + v + ")", desk.priced(0, v, 0, 0), NO_AMOUNT);
            Check.due("priced(3, " + v + ")", desk.priced(3, v, 0, 0), NO_AMOUNT);
        }
        Check.due("priced(4, 0)", desk.priced(4, 0, 0, 0), NO_AMOUNT);
    }

    private static void pricedAtTheEdges() {
        Check.sentence("were P of a quarter v (1 to 9999)");
        DilutedDesk desk = Check.desk(HEAD + "earn 0 100 price 9999;");
        Check.due("at 9999", desk.priced(0, 9999, 0, 0), 500);
        Check.due("at 9998", desk.priced(0, 9998, 0, 0), 1000);
        DilutedDesk low = Check.desk(HEAD + "option 0 100 1;");
        Check.due("at 1", low.priced(0, 1, 0, 0), 1000);
        Check.due("at 2", low.priced(0, 2, 0, 0), 100000 / 150);
        // Of a quarter of the RUN that is not its last, an option counts, an earn does not.
        DilutedDesk both = Check.desk(HEAD + "option 0 100 10;earn 0 100 price 41;");
        Check.due("of the first", both.priced(0, 20, 0, 1), (100 - 20) * 180000 / (18000 + 4500 + 4500));
        Check.due("of the last", both.priced(1, 41, 0, 1), 80 * 180000 / (18000 + 9000 * 31 / 41 + 18000));
        Check.due("of none of them", both.priced(2, 9999, 0, 1), both.run(0, 1, 2));
    }

    private static void profitNoSuchOnes() {
        Check.sentence("profit: NONE: no such ones");
        DilutedDesk desk = Check.desk(HEAD + "earn 0 1 price 0;".repeat(7));
        Check.due("profit(0, 0)", desk.profit(0, 0, 0, 0), 100);
        Check.due("profit(0, 6)", desk.profit(0, 6, 0, 0), 100);
        Check.due("profit(3, 6)", desk.profit(3, 6, 3, 3), 100);
        for (int q : new int[] {-1, 4, LEAST, MOST}) {
            Check.due("profit(" + q + ", 0)", desk.profit(q, 0, 0, 0), -1);
        }
        for (int i : new int[] {-1, 7, 8, LEAST, MOST}) {
            Check.due("profit(0, " + i + ")", desk.profit(0, i, 0, 0), -1);
        }
        desk.grants(3, 0, 1, 0);
        Check.due("profit(0, 7)", desk.profit(0, 7, 0, 0), 100);
        Check.due("profit(0, 8)", desk.profit(0, 8, 0, 0), -1);
    }

    private static void profitLeastAndMost() {
        Check.sentence("The least profit (0, 100, 200, .., 99900)");
        // Quarter 0's profit of 100 lets it in, whatever quarter 3 earns: the least is 0.
        DilutedDesk desk = Check.desk(HEAD + "earn 0 1 price 0;earn 0 1 profit 99900;earn 0 1 profit 99901;");
        Check.due("0", desk.profit(3, 0, 0, 0), 0);
        Check.due("99900", desk.profit(0, 1, 0, 0), 99900);
        Check.due("none, from 99901 on", desk.profit(0, 2, 0, 0), -2);
        // With 1 more from the quarter ahead it is reached.
        desk.earns(0, 1);
        Check.due("99900 and 1", desk.profit(1, 2, 1, 1), 99900);
        desk.earns(0, 0);
        Check.due("99900 and 0", desk.profit(1, 2, 1, 1), -2);
        desk.earns(0, 99900);
        Check.due("0 with all reached ahead", desk.profit(1, 1, 0, 1), 0);
        Check.due("1 too few ahead", desk.profit(1, 2, 0, 1), 100);
    }

    private static void profitStep() {
        Check.sentence("(0, 100, 200, .., 99900) of a quarter by which an INSTRUMENT would be in the SET");
        DilutedDesk desk = Check.desk(HEAD + "earn 0 1 profit 200;earn 0 1 profit 201;earn 0 1 profit 199;");
        Check.due("200", desk.profit(0, 0, 0, 0), 200);
        Check.due("201", desk.profit(0, 1, 0, 0), 300);
        Check.due("199", desk.profit(0, 2, 0, 0), 200);
        // A bond of 200 in the quarter by 100 shares: a profit of 200 is just like that, and becomes not less.
        DilutedDesk bonds = Check.desk(HEAD + "bond 0 100 800;");
        Check.due("a like one", bonds.profit(0, 0, 0, 0), 300);
        DilutedDesk less = Check.desk(HEAD + "bond 0 100 796;");
        Check.due("one just below", less.profit(0, 0, 0, 0), 200);
        // The quarter's own loss does not count: it is told anew.
        Check.due("of a quarter with a loss", Check.desk(HEAD + "earn 0 1 price 0;").profit(1, 0, 1, 1), 100);
        Check.due("with a loss beside it", Check.desk(HEAD + "earn 0 1 price 0;").profit(2, 0, 1, 2), 100);
        DilutedDesk deep = Check.desk(HEAD.replace("loss 20", "loss 99899") + "earn 0 1 price 0;");
        Check.due("99900 against 99899", deep.profit(2, 0, 1, 2), 99900);
        deep.earns(1, -99900);
        Check.due("99900 against 99900", deep.profit(2, 0, 1, 2), -2);
    }

    private static void profitOfAnyQuarter() {
        Check.sentence("profit of a quarter by which an INSTRUMENT would be in the SET of the RUN");
        // Quarters 1 and 2: T counts from quarter 0 on, the bond of 500 by 100 shares wants more EARNINGS in the RUN.
        DilutedDesk desk = Check.desk(HEAD + "earn 0 1 profit 500;bond 0 100 1000;");
        int[] forTheEarn = {500, 400, 500, -2};
        int[] forTheBond = {-2, 500, 600, -2};
        for (int q = 0; q < 4; q++) {
            Check.due("profit(" + q + ", 0, 1, 2)", desk.profit(q, 0, 1, 2), forTheEarn[q]);
            Check.due("profit(" + q + ", 1, 1, 2)", desk.profit(q, 1, 1, 2), forTheBond[q]);
        }
        Check.due("the first of three", desk.profit(0, 1, 0, 2), 800);
    }

    private static void profitOfAQuarterOutside() {
        Check.sentence("profit of a quarter (one that is not of the RUN)");
        // The RUN earns 100, as it stands: just T, one too few; a bond's 99, 100.
        DilutedDesk desk = Check.desk(HEAD + "earn 0 1 profit 100;earn 0 1 profit 101;");
        Check.due("just T", desk.profit(3, 0, 0, 0), 0);
        Check.due("one too few", desk.profit(3, 1, 0, 0), -2);
        Check.due("a bond just below", Check.desk(HEAD + "bond 0 100 396;").profit(3, 0, 0, 0), 0);
        Check.due("a bond just like it", Check.desk(HEAD + "bond 0 100 400;").profit(3, 0, 0, 0), -2);
        // A quarter ahead of the RUN adds to what T asks, and nothing to the RUN's EARNINGS: 30, the bond's 29 and 30.
        DilutedDesk ahead = Check.desk(HEAD + "bond 0 100 116;earn 0 1 profit 199;");
        Check.due("a bond just below, a quarter ahead", ahead.profit(0, 0, 2, 2), 0);
        Check.due("a bond just like it", Check.desk(HEAD + "bond 0 100 120;").profit(0, 0, 2, 2), -2);
        Check.due("T by a quarter ahead", ahead.profit(0, 1, 2, 2), 200);
    }

    private static void profitByNone() {
        Check.sentence("-2: by none");
        DilutedDesk desk = Check.desk(HEAD + "bond 90 1 0;option 0 1 10;bond 0 1 99999;earn 0 1 price 11;");
        Check.due("ahead of its DAY", desk.profit(0, 0, 0, 0), -2);
        Check.due("from its DAY on", desk.profit(1, 0, 1, 1), 100);
        Check.due("an option not above K", desk.profit(0, 1, 0, 0), -2);
        Check.due("a bond too dear", desk.profit(0, 2, 0, 0), -2);
        Check.due("an earn below T", desk.profit(0, 3, 0, 0), -2);
        Check.due("in another quarter's loss", desk.profit(0, 0, 1, 1), -2);
        Check.due("in a quarter ahead of the loss", desk.profit(3, 0, 1, 1), -2);
    }

    private static void ifSplitAnotherA() {
        Check.sentence("ifSplit: A (2 to 9). NONE - 999999999: another A");
        DilutedDesk desk = Check.desk(HEAD);
        for (int a = 2; a <= 9; a++) {
            Check.due("ifSplit(" + a + ")", desk.ifSplit(a, 0, 0), 1000 / a);
        }
        for (int a : new int[] {1, 10, 0, -1, -2, LEAST, MOST}) {
            Check.due("ifSplit(" + a + ")", desk.ifSplit(a, 0, 0), NO_AMOUNT);
        }
    }

    private static void ifSplitThreeSplits() {
        Check.sentence("ifSplit: NONE - 999999999: 3 splits");
        DilutedDesk desk = Check.desk(HEAD + "split 1 2;split 2 2;");
        Check.due("a third", desk.ifSplit(2, 0, 0), 100000 / 800);
        desk.tells(2, 2, 2);
        Check.due("a fourth", desk.ifSplit(2, 0, 0), NO_AMOUNT);
        desk.undo();
        Check.due("a third again", desk.ifSplit(2, 0, 0), 100000 / 800);
    }

    private static void ifSplitTwentyEvents() {
        Check.sentence("ifSplit: NONE - 999999999: 20 EVENTS");
        DilutedDesk desk = Check.desk(HEAD + "issue 0 1;".repeat(19));
        Check.due("a 20th", desk.ifSplit(2, 0, 0), 100000 / 238);
        desk.tells(0, 0, 1);
        Check.due("a 21st", desk.ifSplit(2, 0, 0), NO_AMOUNT);
        desk.undo();
        Check.due("a 20th again", desk.ifSplit(2, 0, 0), 100000 / 238);
    }

    private static void ifSplitDay() {
        Check.sentence("a further split on the latest EVENT's DAY (0 without)");
        // On DAY 0 it is not behind an INSTRUMENT of DAY 0: N stays, the shares double.
        DilutedDesk none = Check.desk(HEAD + "earn 0 100 price 0;");
        Check.due("without an EVENT", none.ifSplit(2, 0, 0), 100000 / 300);
        DilutedDesk first = Check.desk(HEAD + "issue 0 100;earn 0 100 price 0;");
        Check.due("on DAY 0", first.ifSplit(2, 0, 0), 100000 / 500);
        DilutedDesk second = Check.desk(HEAD + "issue 1 100;earn 0 100 price 0;earn 1 100 price 0;");
        Check.due("on DAY 1", second.ifSplit(2, 1, 1), -20 * 1000 / 400);
        Check.due("on DAY 1, in quarter 2", second.ifSplit(2, 2, 2), 30 * 1000 / (400 + 200 + 100));
        // Behind the latest EVENT, not ahead of it: what was issued that DAY is split, too.
        DilutedDesk last = Check.desk(HEAD + "issue 0 1;issue 359 60;");
        Check.due("on DAY 359", last.ifSplit(2, 3, 3), 40 * 90000 / (89 * 202 + 322));
        // The price of the quarter that ends on that DAY is scaled, of those ahead it is not.
        DilutedDesk scaled = Check.desk(HEAD + "issue 89 1;option 0 100 10;");
        Check.due("on DAY 89", scaled.ifSplit(2, 0, 0), 100 * 90000 / (89 * 200 + 202 + 200 * 90 * 10 / 20));
        DilutedDesk behind = Check.desk(HEAD + "issue 90 1;option 0 100 10;");
        Check.due("on DAY 90", behind.ifSplit(2, 0, 0), 100 * 90000 / 18000);
    }

    private static void whatIfChangesNothing() {
        Check.sentence("were .. (nothing changes)");
        DilutedDesk desk = Check.desk(HEAD + "issue 1 5;split 1 2;option 0 5 5;bond 0 5 5;earn 0 5 profit 5;");
        desk.earns(0, 101);
        String before = Check.state(desk);
        desk.without(0, 0, 3);
        desk.without(3, 0, 3);
        desk.with(7, 0, 3);
        desk.with(8, 0, 3);
        desk.priced(0, 9999, 0, 3);
        desk.priced(0, 10000, 0, 3);
        desk.profit(0, 1, 0, 3);
        desk.profit(3, 2, 3, 3);
        desk.ifSplit(9, 0, 3);
        desk.ifSplit(10, 0, 3);
        Check.same("behind them", Check.state(desk), before);
    }

    private static void tellsSorts() {
        Check.sentence("tells: (sort 0 issue, 1 buy, 2 split): how many there are. NONE: not as told");
        DilutedDesk desk = Check.desk(HEAD);
        Check.due("sort 0", desk.tells(0, 1, 2), 1);
        Check.due("sort 1", desk.tells(1, 1, 2), 2);
        Check.due("sort 2", desk.tells(2, 1, 2), 3);
        for (int sort : new int[] {-1, 3, LEAST, MOST}) {
            Check.due("sort " + sort, desk.tells(sort, 1, 2), -1);
        }
    }

    private static void tellsDays() {
        Check.sentence("tells: DAY 0 to 359, no EVENT's earlier than that of the one ahead");
        for (int sort = 0; sort < 3; sort++) {
            DilutedDesk desk = Check.desk(HEAD + "bond 300 1 1;");
            for (int day : new int[] {-1, 360, LEAST, MOST}) {
                Check.due("on DAY " + day, desk.tells(sort, day, 2), -1);
            }
            Check.due("on DAY 0", desk.tells(sort, 0, 2), 1);
            Check.due("on DAY 100", desk.tells(0, 100, 2), 2);
            Check.due("on the DAY ahead", desk.tells(sort, 99, 2), -1);
            Check.due("on that DAY", desk.tells(sort, 100, 2), 3);
            Check.due("on DAY 359", desk.tells(0, 359, 2), 4);
            Check.due("on DAY 358", desk.tells(sort, 358, 2), -1);
            Check.due("on DAY 360", desk.tells(sort, 360, 2), -1);
            Check.due("on DAY 359 again", desk.tells(sort, 359, 2), 5);
        }
    }

    private static void tellsNumbers() {
        Check.sentence("tells: 1 to 99999; 2 to 9");
        DilutedDesk desk = Check.desk(HEAD + "issue 0 99999;issue 0 99999;");
        int[] least = {1, 1, 2};
        int[] most = {99999, 99999, 9};
        for (int sort = 0; sort < 3; sort++) {
            for (int n : new int[] {least[sort] - 1, most[sort] + 1, -least[sort], LEAST, MOST}) {
                Check.due("tells(" + sort + ", 0, " + n + ")", desk.tells(sort, 0, n), -1);
            }
            Check.due("the least", desk.tells(sort, 0, least[sort]), 3);
            desk.undo();
            Check.due("the most", desk.tells(sort, 0, most[sort]), 3);
            desk.undo();
        }
    }

    private static void tellsFewerThanThereAre() {
        Check.sentence("tells: fewer than there are");
        DilutedDesk desk = Check.desk(HEAD + "issue 100 5;split 200 2;");
        // 210 on DAY 200.
        Check.due("all", desk.tells(1, 200, 210), -1);
        Check.due("all and one", desk.tells(1, 359, 211), -1);
        Check.due("all but one", desk.tells(1, 359, 209), 3);
        Check.due("the last one", desk.tells(1, 359, 1), -1);
        Check.due("shares", desk.now(3), 1);
        desk.tells(0, 359, 1);
        Check.due("one of two", desk.tells(1, 359, 1), 5);
        DilutedDesk one = new DilutedDesk();
        Check.due("of one", one.tells(1, 0, 1), -1);
    }

    private static void tellsTwentyAndThree() {
        Check.sentence("tells: -2: there are 20, 3 splits");
        DilutedDesk desk = Check.desk(HEAD + "split 0 2;".repeat(2) + "issue 0 1;".repeat(16));
        Check.due("a third split", desk.tells(2, 0, 2), 19);
        Check.due("a fourth split", desk.tells(2, 0, 2), -2);
        Check.due("a 20th EVENT", desk.tells(1, 0, 1), 20);
        for (int sort = 0; sort < 3; sort++) {
            Check.due("a 21st EVENT", desk.tells(sort, 0, 2), -2);
        }
        desk.undo();
        Check.due("a 20th EVENT again", desk.tells(0, 0, 1), 20);
        DilutedDesk full = Check.desk(HEAD + "issue 0 1;".repeat(20));
        Check.due("a first split as 21st", full.tells(2, 0, 2), -2);
        full.text();
        Check.due("behind a new TEXT", full.tells(2, 0, 2), 1);
    }

    private static void tellsRefusedChangesNothing() {
        Check.sentence("tells: refused ones do not come");
        DilutedDesk desk = Check.desk(HEAD + "issue 5 5;split 5 2;split 5 2;split 5 2;");
        desk.prices(0, 9);
        String before = Check.state(desk);
        desk.tells(3, 5, 5);
        desk.tells(0, 4, 5);
        desk.tells(0, 360, 5);
        desk.tells(0, 5, 0);
        desk.tells(1, 5, 840);
        desk.tells(2, 5, 2);
        Check.same("behind them", Check.state(desk), before);
        Check.due("undo() is of the one ahead", desk.undo(), 0);
        Check.due("undone", desk.quarter(0, 1), 10);
    }

    private static void grantsSorts() {
        Check.sentence("grants: (sort 0 to 3): its number. NONE: not as told");
        DilutedDesk desk = Check.desk(HEAD);
        for (int sort = 0; sort < 4; sort++) {
            Check.due("sort " + sort, desk.grants(sort, 1, 1, 1), sort);
            Check.due("its sort", desk.instrument(sort, 0), sort);
        }
        for (int sort : new int[] {-1, 4, LEAST, MOST}) {
            Check.due("sort " + sort, desk.grants(sort, 1, 1, 1), -1);
        }
    }

    private static void grantsDays() {
        Check.sentence("grants: DAY 0 to 359");
        for (int sort = 0; sort < 4; sort++) {
            DilutedDesk desk = Check.desk(HEAD + "issue 200 1;bond 300 1 1;");
            for (int day : new int[] {-1, 360, LEAST, MOST}) {
                Check.due("on DAY " + day, desk.grants(sort, day, 1, 1), -1);
            }
            // No order: neither an EVENT's DAY nor another INSTRUMENT's matters.
            Check.due("on DAY 359", desk.grants(sort, 359, 1, 1), 1);
            Check.due("on DAY 0", desk.grants(sort, 0, 1, 1), 2);
            Check.due("its DAY", desk.instrument(1, 1), 359);
            Check.due("its DAY", desk.instrument(2, 1), 0);
        }
    }

    private static void grantsNumbers() {
        Check.sentence("grants: N 1 to 9999; K 1 to 9999, I, T 0 to 99999");
        for (int sort = 0; sort < 4; sort++) {
            DilutedDesk desk = Check.desk(HEAD);
            int least = sort == 0 ? 1 : 0;
            int most = sort == 0 ? 9999 : 99999;
            for (int n : new int[] {0, 10000, -1, LEAST, MOST}) {
                Check.due("N " + n, desk.grants(sort, 0, n, 1), -1);
            }
            for (int k : new int[] {least - 1, most + 1, -1, LEAST, MOST}) {
                Check.due("K, I, T " + k, desk.grants(sort, 0, 1, k), -1);
            }
            Check.due("the least", desk.grants(sort, 0, 1, least), 0);
            Check.due("the most", desk.grants(sort, 0, 9999, most), 1);
            Check.due("the least's K, I, T", desk.instrument(0, 3), least);
            Check.due("the most's K, I, T", desk.instrument(1, 3), most);
            Check.due("the most's N", desk.instrument(1, 2), 9999);
        }
    }

    private static void grantsEight() {
        Check.sentence("grants: -2: there are 8");
        DilutedDesk desk = Check.desk(HEAD + "bond 1 1 1;".repeat(7));
        for (int sort = 0; sort < 4; sort++) {
            Check.due("an eighth", desk.grants(sort, 1, 1, 1), 7);
            for (int other = 0; other < 4; other++) {
                Check.due("a ninth", desk.grants(other, 1, 1, 1), -2);
            }
            Check.due("undo()", desk.undo(), 0);
        }
        desk.grants(0, 1, 1, 1);
        desk.text();
        Check.due("behind a new TEXT", desk.grants(0, 1, 1, 1), 0);
    }

    private static void grantsRefusedChangesNothing() {
        Check.sentence("grants: refused ones do not come");
        DilutedDesk desk = Check.desk(HEAD + "bond 1 1 1;".repeat(8));
        desk.prices(0, 9);
        String before = Check.state(desk);
        desk.grants(4, 1, 1, 1);
        desk.grants(0, 360, 1, 1);
        desk.grants(0, 1, 0, 1);
        desk.grants(0, 1, 1, 0);
        desk.grants(0, 1, 1, 1);
        Check.same("behind them", Check.state(desk), before);
    }

    private static void earnsAtTheEdges() {
        Check.sentence("The profit of a quarter is v (-99999 to 99999): what it was. NONE - 999999999: no such ones");
        DilutedDesk desk = Check.desk(HEAD);
        int[] was = {100, -20, 30, 40};
        for (int q = 0; q < 4; q++) {
            Check.due("the most", desk.earns(q, 99999), was[q]);
            Check.due("the least", desk.earns(q, -99999), 99999);
            Check.due("none", desk.earns(q, 0), -99999);
            Check.due("-1", desk.earns(q, -1), 0);
            Check.due("what NONE looks like", desk.earns(q, 5), -1);
            for (int v : new int[] {100000, -100000, LEAST, MOST, NO_AMOUNT}) {
                Check.due("earns(" + q + ", " + v + ")", desk.earns(q, v), NO_AMOUNT);
            }
            Check.due("the profit", desk.quarter(q, 0), 5);
        }
        for (int q : new int[] {-1, 4, LEAST, MOST}) {
            Check.due("earns(" + q + ", 0)", desk.earns(q, 0), NO_AMOUNT);
        }
    }

    private static void earnsRefusedChangesNothing() {
        Check.sentence("earns: refused ones change nothing");
        DilutedDesk desk = Check.desk(HEAD);
        desk.tells(0, 1, 1);
        String before = Check.state(desk);
        desk.earns(4, 0);
        desk.earns(-1, 0);
        desk.earns(0, 100000);
        desk.earns(0, -100000);
        Check.same("behind them", Check.state(desk), before);
    }

    private static void pricesAtTheEdges() {
        Check.sentence("P of a quarter is v (1 to 9999): what it was. NONE: no such ones");
        DilutedDesk desk = Check.desk(HEAD);
        for (int q = 0; q < 4; q++) {
            Check.due("the most", desk.prices(q, 9999), 10 * (q + 1));
            Check.due("the least", desk.prices(q, 1), 9999);
            for (int v : new int[] {0, 10000, -1, LEAST, MOST}) {
                Check.due("prices(" + q + ", " + v + ")", desk.prices(q, v), -1);
            }
            Check.due("the price", desk.quarter(q, 1), 1);
        }
        for (int q : new int[] {-1, 4, LEAST, MOST}) {
            Check.due("prices(" + q + ", 1)", desk.prices(q, 1), -1);
        }
    }

    private static void pricesRefusedChangesNothing() {
        Check.sentence("prices: refused ones change nothing");
        DilutedDesk desk = Check.desk(HEAD);
        desk.tells(0, 1, 1);
        String before = Check.state(desk);
        desk.prices(4, 1);
        desk.prices(-1, 1);
        desk.prices(0, 0);
        desk.prices(0, 10000);
        Check.same("behind them", Check.state(desk), before);
    }

    private static void undoTheLatest() {
        Check.sentence("The latest tells(), grants(), earns(), prices() that was done is undone");
        DilutedDesk desk = Check.desk(HEAD);
        String[] states = new String[5];
        states[0] = Check.state(desk);
        desk.tells(2, 7, 3);
        states[1] = Check.state(desk);
        desk.grants(3, 6, 5, 4);
        states[2] = Check.state(desk);
        desk.earns(3, -5);
        states[3] = Check.state(desk);
        desk.prices(3, 5);
        for (int left = 3; left >= 0; left--) {
            Check.due("undo() to " + left, desk.undo(), left);
            Check.same("as before", Check.state(desk), states[left]);
        }
        Check.due("undo() of none", desk.undo(), -1);
        Check.same("as at first", Check.state(desk), states[0]);
    }

    private static void undoThatWasDone() {
        Check.sentence("that was done");
        DilutedDesk desk = Check.desk(HEAD);
        desk.earns(0, 5);
        desk.earns(0, 100000);
        desk.tells(0, 400, 1);
        desk.prices(9, 1);
        desk.grants(9, 1, 1, 1);
        Check.due("undo() passes those refused", desk.undo(), 0);
        Check.due("the profit", desk.quarter(0, 0), 100);
        // An undo() is none of these: it can't be undone itself.
        Check.due("undo() of the undo()", desk.undo(), -1);
        Check.due("the profit stays", desk.quarter(0, 0), 100);
        // The value that stood already was told all the same.
        desk.earns(0, 100);
        desk.prices(0, 10);
        Check.due("two were done", desk.undo(), 1);
        Check.due("two were undone", desk.undo(), 0);
    }

    private static void undoHowManyMore() {
        Check.sentence("how many more can be");
        DilutedDesk desk = Check.desk(HEAD);
        desk.earns(0, 1);
        Check.due("the only one", desk.undo(), 0);
        desk.earns(0, 1);
        desk.earns(0, 2);
        Check.due("one of two", desk.undo(), 1);
        desk.earns(0, 3);
        Check.due("one of two again", desk.undo(), 1);
        Check.due("the profit", desk.quarter(0, 0), 1);
        Check.due("the last of them", desk.undo(), 0);
        Check.due("the profit", desk.quarter(0, 0), 100);
    }

    private static void undoTenAtMost() {
        Check.sentence("(10 at most are kept)");
        for (int done = 9; done <= 12; done++) {
            DilutedDesk desk = Check.desk(HEAD);
            changes(desk, done);
            int kept = Math.min(done, 10);
            Check.due("kept of " + done, desk.now(5), kept);
            for (int left = kept - 1; left >= 0; left--) {
                Check.due("undo() to " + left, desk.undo(), left);
                standing(desk, done - kept + left);
            }
            Check.due("undo() of none", desk.undo(), -1);
            standing(desk, done - kept);
        }
    }

    /** The first of the changes stand, and no more. */
    private static void standing(DilutedDesk desk, int count) {
        DilutedDesk other = Check.desk(HEAD);
        changes(other, count);
        Check.same("with " + count + " changes", Check.year(desk), Check.year(other));
    }

    /** So many changes, of all kinds by turns. */
    private static void changes(DilutedDesk desk, int count) {
        for (int k = 0; k < count; k++) {
            switch (k % 4) {
                case 0: desk.earns(1, k + 1000); break;
                case 1: desk.tells(0, k, 1); break;
                case 2: desk.prices(1, k + 1000); break;
                default: desk.grants(1, k, 1, k); break;
            }
        }
    }

    private static void undoNone() {
        Check.sentence("undo: NONE: none is");
        DilutedDesk desk = new DilutedDesk();
        Check.due("on a new desk", desk.undo(), -1);
        Check.due("again", desk.undo(), -1);
        desk.earns(0, 5);
        Check.due("one", desk.undo(), 0);
        Check.due("none", desk.undo(), -1);
        Check.due("what can be undone", desk.now(5), 0);
    }

    private static void undoMakesRoom() {
        Check.sentence("undo: the latest is undone (room, DAY and SHARES are as before)");
        DilutedDesk desk = Check.desk(HEAD + "issue 100 1;");
        desk.tells(1, 300, 100);
        Check.due("no share more can be bought", desk.tells(1, 300, 1), -1);
        Check.due("no earlier DAY", desk.tells(0, 299, 1), -1);
        desk.undo();
        Check.due("an earlier DAY again", desk.tells(0, 100, 1), 2);
        Check.due("shares can be bought again", desk.tells(1, 100, 101), 3);
        desk.undo();
        desk.undo();
        // What comes in its place has nothing of what was undone.
        desk.tells(2, 200, 2);
        int[] due = {2, 200, 2};
        for (int what = 0; what < 3; what++) {
            Check.due("event(1, " + what + ")", desk.event(1, what), due[what]);
        }
    }
}
