/** Promises 11 to 14: weight, adds, run, rank. */
public final class RunTest {
    private static final int LEAST = Integer.MIN_VALUE;
    private static final int MOST = Integer.MAX_VALUE;
    private static final int[][] NO_RUNS = {
        {-1, 0}, {0, 4}, {1, 0}, {3, 2}, {4, 4}, {-1, -1}, {LEAST, MOST}, {MOST, LEAST}, {0, MOST}, {LEAST, 0},
    };

    public static void main(String[] args) {
        noSuchRuns();
        weight();
        option();
        bond();
        earn();
        noSuchInstruments();
        runWithNothing();
        taking();
        rounding();
        rank();
        largest();
        Check.finish();
    }

    /** 100 shares; of each quarter its profit and price. */
    private static String year(int... profitsAndPrices) {
        StringBuilder text = new StringBuilder("shares 100;");
        for (int k = 0; k < 8; k += 2) {
            int profit = profitsAndPrices[k];
            text.append("quarter ").append(profit < 0 ? "loss " : "profit ").append(Math.abs(profit));
            text.append(" price ").append(profitsAndPrices[k + 1]).append(";");
        }
        return text.toString();
    }

    private static void noSuchRuns() {
        DilutedDesk desk = Check.desk(year(1, 1, 1, 1, 1, 1, 1, 1) + "bond 0 1 1;");
        for (int[] run : NO_RUNS) {
            int from = run[0];
            int to = run[1];
            String told = " of " + from + " to " + to;
            Check.noSuch("weight" + told, () -> desk.weight(from, to));
            Check.noSuch("adds" + told, () -> desk.adds(0, from, to, false));
            Check.noSuch("adds to earnings" + told, () -> desk.adds(0, from, to, true));
            Check.noSuch("run" + told, () -> desk.run(from, to, 0));
            Check.noSuch("rank" + told, () -> desk.rank(from, to, 0));
            Check.noSuch("rank of none" + told, () -> desk.rank(from, to, -1));
        }
        for (int what : new int[] {-1, 6, LEAST, MOST}) {
            Check.noSuch("run(0, 3, " + what + ")", () -> desk.run(0, 3, what));
        }
    }

    private static void weight() {
        DilutedDesk desk = Check.desk(year(1, 1, 1, 1, 1, 1, 1, 1)
                + "issue 45 200;split 89 2;buy 90 100;issue 300 7;split 359 3;");
        // RESTATED: 600 to DAY 44, 1800 to DAY 89, 1500 from DAY 90, 1521 from DAY 300.
        Check.due("weight(0, 0)", desk.weight(0, 0), 45 * 600 + 45 * 1800);
        Check.due("weight(1, 1)", desk.weight(1, 1), 90 * 1500);
        Check.due("weight(2, 2)", desk.weight(2, 2), 90 * 1500);
        Check.due("weight(3, 3)", desk.weight(3, 3), 30 * 1500 + 60 * 1521);
        Check.due("weight(1, 3)", desk.weight(1, 3), 210 * 1500 + 60 * 1521);
        Check.due("weight(0, 3)", desk.weight(0, 3), 45 * 600 + 45 * 1800 + 210 * 1500 + 60 * 1521);
        DilutedDesk first = Check.desk(year(1, 1, 1, 1, 1, 1, 1, 1) + "issue 0 1;issue 359 1;");
        Check.due("weight with day 0 and 359", first.weight(0, 3), 359 * 101 + 102);
    }

    private static void option() {
        DilutedDesk desk = Check.desk(year(1, 20, 1, 15, 1, 8, 1, 7) + "split 180 2;option 85 10 15;option 180 10 7;");
        // OLD 20: quarter 0 has 5 DAYS of it, 5 of 20 above; in quarter 1 it is not above; then 16 and 14 by the split.
        Check.due("adds(0, 0, 0)", desk.adds(0, 0, 0, false), 20 * 5 * 5 / 20);
        Check.due("adds(0, 1, 1)", desk.adds(0, 1, 1, false), 0);
        Check.due("adds(0, 2, 2)", desk.adds(0, 2, 2, false), 20 * 90 * 1 / 16);
        Check.due("adds(0, 3, 3)", desk.adds(0, 3, 3, false), 0);
        Check.due("adds(0, 0, 3)", desk.adds(0, 0, 3, false), 25 + 112);
        Check.due("an option adds no earnings", desk.adds(0, 0, 3, true), 0);
        // A split on its own DAY does not scale it.
        Check.due("adds(1, 0, 1)", desk.adds(1, 0, 1, false), 0);
        Check.due("adds(1, 2, 2)", desk.adds(1, 2, 2, false), 10 * 90 * 1 / 8);
        Check.due("adds(1, 3, 3)", desk.adds(1, 3, 3, false), 0);
        // Each quarter is rounded down by itself: 28.1 and 28.1 and ..
        DilutedDesk parts = Check.desk(year(1, 7, 1, 7, 1, 7, 1, 7) + "option 0 1 5;");
        Check.due("a quarter's part", parts.adds(0, 0, 0, false), 90 * 2 / 7);
        Check.due("four quarters' parts", parts.adds(0, 0, 3, false), 90 * 2 / 7 * 4);
        // A split behind the quarter makes OLD more, the price not.
        DilutedDesk later = Check.desk(year(1, 10, 1, 10, 1, 10, 1, 10) + "split 90 3;option 0 1 10;");
        Check.due("before the split", later.adds(0, 0, 0, false), 0);
        Check.due("with the split", later.adds(0, 1, 1, false), 3 * 90 * 20 / 30);
    }

    private static void bond() {
        DilutedDesk desk = Check.desk(year(1, 1, 1, 1, 1, 1, 1, 1) + "split 200 3;bond 100 5 1000;bond 359 5 359;");
        Check.due("ahead of its day", desk.adds(0, 0, 0, false), 0);
        Check.due("ahead of its day, earnings", desk.adds(0, 0, 0, true), 0);
        Check.due("adds(0, 1, 1)", desk.adds(0, 1, 1, false), 15 * 80);
        Check.due("adds(0, 1, 1) to earnings", desk.adds(0, 1, 1, true), 1000 * 80 / 360);
        Check.due("adds(0, 0, 3)", desk.adds(0, 0, 3, false), 15 * 260);
        Check.due("adds(0, 0, 3) to earnings", desk.adds(0, 0, 3, true), 1000 * 260 / 360);
        Check.due("one day", desk.adds(1, 3, 3, false), 5);
        Check.due("one day, earnings rounded down", desk.adds(1, 3, 3, true), 0);
    }

    private static void earn() {
        DilutedDesk desk = Check.desk(year(100, 10, -50, 10, 40, 10, 20, 9) + "split 269 2;"
                + "earn 80 3 profit 90;earn 80 3 price 20;earn 269 3 price 10;earn 0 1 profit 110;");
        // EARNINGS from quarter 0: 100, 50, 90, 110.
        Check.due("profit reached", desk.adds(0, 0, 0, false), 6 * 10);
        Check.due("profit not reached", desk.adds(0, 1, 1, false), 0);
        Check.due("a run counts from quarter 0", desk.adds(0, 2, 2, false), 6 * 90);
        Check.due("by the run's last quarter", desk.adds(0, 0, 1, false), 0);
        Check.due("the whole year", desk.adds(0, 0, 3, false), 6 * 280);
        Check.due("just reached", desk.adds(3, 3, 3, false), 2 * 90);
        Check.due("price not reached", desk.adds(1, 1, 1, false), 0);
        Check.due("price just reached by the split", desk.adds(1, 2, 2, false), 6 * 90);
        Check.due("price not reached in the last quarter", desk.adds(1, 0, 3, false), 0);
        Check.due("the run's last quarter's price", desk.adds(1, 0, 2, false), 6 * 190);
        Check.due("one day of it", desk.adds(2, 2, 2, false), 3);
        Check.due("no split behind its day", desk.adds(2, 3, 3, false), 0);
        Check.due("an earn adds no earnings", desk.adds(0, 0, 3, true), 0);
        DilutedDesk loss = Check.desk(year(-1, 1, 1, 1, 0, 1, 0, 1) + "earn 0 1 profit 0;earn 0 1 price 0;");
        Check.due("a loss is below 0", loss.adds(0, 0, 0, false), 0);
        Check.due("0 is reached", loss.adds(0, 1, 1, false), 90);
        Check.due("a price of 0 is reached", loss.adds(1, 0, 0, false), 90);
    }

    private static void noSuchInstruments() {
        DilutedDesk desk = Check.desk(year(1, 1, 1, 1, 1, 1, 1, 1) + "bond 0 1 1;");
        for (int wrong : new int[] {-1, 1, 8, LEAST, MOST}) {
            Check.noSuch("adds(" + wrong + ")", () -> desk.adds(wrong, 0, 3, false));
            Check.noSuch("adds(" + wrong + ") to earnings", () -> desk.adds(wrong, 0, 3, true));
        }
    }

    private static void run(DilutedDesk desk, int from, int to, int... due) {
        for (int what = 0; what < 6; what++) {
            Check.due("run(" + from + ", " + to + ", " + what + ")", desk.run(from, to, what), due[what]);
        }
    }

    private static void runWithNothing() {
        DilutedDesk desk = Check.desk(year(100, 1, -70, 1, 0, 1, 7, 1));
        run(desk, 0, 0, 100, 1000, 1000, 0, 0, -1);
        run(desk, 1, 1, -70, -700, -700, 0, 0, -1);
        run(desk, 2, 2, 0, 0, 0, 0, 0, -1);
        run(desk, 0, 1, 30, 300, 300, 0, 0, -1);
        run(desk, 0, 3, 37, 370, 370, 0, 0, -1);
    }

    private static void taking() {
        // HARM in quarter 0: 90 by 900 is 0.1; 0; 45 by 90 is 0.5; the option has none.
        String instruments = "bond 0 10 360;earn 0 10 price 1;bond 0 1 180;option 0 9 10;";
        DilutedDesk desk = Check.desk(year(100, 10, 9, 10, -100, 11, 1000, 10) + instruments);
        // 100 by 9000 is above 0; with the earn 100 by 9900, below 0.1: bond 0 ends it.
        run(desk, 0, 0, 100, 1000, 909, 2, 3, 0);
        run(desk, 1, 1, 9, 90, 81, 2, 3, 0);
        // A loss: no INSTRUMENT makes it less, the first by RANK ends it.
        run(desk, 2, 2, -100, -1000, -1000, 0, 4, 1);
        // 1000 by 9900 is above 0.1, with bond 0 1090 by 10800; bond 2's 0.5 ends it.
        run(desk, 3, 3, 1000, 10000, 1090 * 90000 / 10800, 3, 3, 2);
        // No change is not less: 0 by 9000 stays 0.
        DilutedDesk nothing = Check.desk(year(0, 1, 0, 1, 0, 1, 0, 1) + "earn 0 1 price 0;");
        run(nothing, 0, 0, 0, 0, 0, 0, 1, 0);
        // HARM just what earnings by weight are: 100 by 100 shares, 1 by 1 share.
        DilutedDesk like = Check.desk(year(100, 1, 100, 1, 100, 1, 100, 1) + "bond 0 1 4;");
        run(like, 0, 0, 100, 1000, 1000, 0, 1, 0);
        // What is less by less than the rounding shows is taken in, too.
        String many = year(1, 1, 0, 1, 0, 1, 0, 1).replace("shares 100", "shares 99999");
        run(Check.desk(many + "earn 0 1 price 0;"), 0, 0, 1, 0, 0, 1, 1, -1);
        // The least that can be ADDED to WEIGHT: one share on one DAY.
        DilutedDesk oneDay = Check.desk(year(0, 1, 0, 1, 0, 1, 100, 1) + "earn 359 1 price 0;");
        run(oneDay, 3, 3, 100, 1000, 999, 1, 1, -1);
        // Bond 1 alone would make it less (10 to 8), behind bond 0 (10 to 5.5) it does not (to 5.67).
        DilutedDesk chain = Check.desk(year(1000, 1, 0, 1, 0, 1, 0, 1) + "bond 0 100 400;bond 0 100 2400;");
        run(chain, 0, 0, 1000, 10000, 5500, 1, 2, 1);
    }

    private static void rounding() {
        // 200 by 300 shares is 666.67; a loss goes down to -667.
        String three = year(200, 1, -200, 1, 0, 1, 0, 1).replace("shares 100", "shares 300");
        DilutedDesk desk = Check.desk(three);
        Check.due("rounded down", desk.run(0, 0, 1), 666);
        Check.due("rounded down below 0", desk.run(1, 1, 1), -667);
        Check.due("rounded down below 0, diluted", desk.run(1, 1, 2), -667);
        // By DAYS of the RUN: two quarters weigh 180 DAYS.
        Check.due("two quarters", desk.run(1, 2, 1), -667);
    }

    private static void rank(DilutedDesk desk, int from, int to, int... due) {
        for (int k = 0; k < due.length; k++) {
            Check.due("rank(" + from + ", " + to + ", " + k + ")", desk.rank(from, to, k), due[k]);
        }
        for (int k : new int[] {due.length, -1, 8, LEAST, MOST}) {
            Check.due("rank(" + from + ", " + to + ", " + k + ")", desk.rank(from, to, k), -1);
        }
    }

    private static void rank() {
        DilutedDesk desk = Check.desk(year(1, 10, 1, 10, 1, 10, 1, 10)
                + "bond 0 2 16;bond 0 1 8;bond 0 3 12;option 0 5 3;bond 90 5 4;earn 0 1 profit 2;option 0 1 10;"
                + "bond 0 1 0;");
        // Like ones by number, also if they are fractions of other numbers (16 by 2, 8 by 1).
        rank(desk, 0, 0, 3, 7, 2, 0, 1);
        rank(desk, 1, 1, 3, 5, 7, 4, 2, 0, 1);
        rank(desk, 0, 3, 3, 5, 7, 4, 2, 0, 1);
        rank(Check.desk(year(1, 1, 1, 1, 1, 1, 1, 1)), 0, 3);
    }

    private static void largest() {
        String head = "shares 99999;" + "quarter profit 99999 price 9999;".repeat(4);
        DilutedDesk desk = Check.desk(head + "split 359 9;".repeat(3) + "option 0 9999 1;".repeat(7) + "bond 0 1 99999;");
        long weight = 360L * 99999 * 729;
        long three = 9999L * 729 * 90 * 9998 / 9999 * 3;
        long last = 9999L * 729 * 90 * (9999L * 729 - 1) / (9999L * 729);
        Check.due("a large weight", desk.weight(0, 3), weight);
        Check.due("a large option", desk.adds(0, 0, 3, false), three + last);
        Check.due("its diluted", desk.run(0, 3, 2), 399996L * 360000 / (weight + 7 * (three + last)));
        Check.due("its set", desk.run(0, 3, 3), 127);
        Check.due("what ended it", desk.run(0, 3, 5), 7);
        DilutedDesk one = Check.desk(head.replace("shares 99999", "shares 1") + "bond 0 1 99999;".repeat(8));
        Check.due("the most a share can earn", one.run(0, 3, 1), 399996000);
        one.earns(0, -99999);
        one.earns(1, -99999);
        one.earns(2, -99999);
        one.earns(3, -99999);
        Check.due("the most a share can lose", one.run(0, 3, 1), -399996000);
    }
}
