/** The edges of SHARES, ADDS, HARM, RANK and SET: each sentence of the terms that names one, at it and next to it. */
public final class EdgeYearTest {
    public static void main(String[] args) {
        ninetyDays();
        onThatDayAndAhead();
        inOrderOfEvents();
        laterDay();
        laterOrThatOne();
        weightOfEachDay();
        profitsLessLosses();
        countsFromItsDay();
        scaleBehindItsDay();
        scaleUpToTheQuarter();
        oldUpTo359();
        aboveK();
        optionRoundedDown();
        optionQuarterByQuarter();
        bondBy360();
        earnByProfit();
        earnFromQuarter0();
        earnByPrice();
        nothingToEarnings();
        hasNoHarm();
        leastHarmFirst();
        ofLikeOnesTheFirst();
        becomeLess();
        firstEndsIt();
        bothWithWhatIsAdded();
        roundedDown();
        timesDays();
        basicAndDiluted();
        largest();
        Check.finish();
    }

    /** 100 shares; of each quarter its profit and price. */
    private static String year(int... profitsAndPrices) {
        StringBuilder text = new StringBuilder("shares 100;");
        for (int k = 0; k < 8; k += 2) {
            int profit = profitsAndPrices[k];
            text.append("quarter ").append(profit < 0 ? "loss " : "profit ").append(Math.abs(profit));
            text.append(" price ").append(profitsAndPrices[k + 1]).append(";");
        }
        return text.toString();
    }

    private static String plain() {
        return year(100, 10, 100, 10, 100, 10, 100, 10);
    }

    private static void shares(DilutedDesk desk, int day, int told, int restated) {
        Check.due("shares(" + day + ", false)", desk.shares(day, false), told);
        Check.due("shares(" + day + ", true)", desk.shares(day, true), restated);
    }

    private static void weights(DilutedDesk desk, long... due) {
        for (int q = 0; q < 4; q++) {
            Check.due("weight(" + q + ", " + q + ")", desk.weight(q, q), due[q]);
        }
        Check.due("weight(0, 3)", desk.weight(0, 3), due[0] + due[1] + due[2] + due[3]);
        Check.due("weight(1, 2)", desk.weight(1, 2), due[1] + due[2]);
    }

    /** What an INSTRUMENT ADDS to WEIGHT in each quarter. */
    private static void adds(DilutedDesk desk, int i, long... due) {
        for (int q = 0; q < 4; q++) {
            Check.due("adds(" + i + ", " + q + ", " + q + ")", desk.adds(i, q, q, false), due[q]);
        }
    }

    /** SET, how many have HARM, and the INSTRUMENT that ended it. */
    private static void taken(DilutedDesk desk, int from, int to, int set, int harm, int ender) {
        String run = "run(" + from + ", " + to;
        Check.due(run + ", 3)", desk.run(from, to, 3), set);
        Check.due(run + ", 4)", desk.run(from, to, 4), harm);
        Check.due(run + ", 5)", desk.run(from, to, 5), ender);
    }

    private static void ranks(DilutedDesk desk, int from, int to, int... due) {
        for (int k = 0; k < due.length; k++) {
            Check.due("rank(" + from + ", " + to + ", " + k + ")", desk.rank(from, to, k), due[k]);
        }
        Check.due("rank behind the last", desk.rank(from, to, due.length), -1);
    }

    private static void ninetyDays() {
        Check.sentence("QUARTERS 0 to 3 have 90 DAYS each");
        weights(Check.desk(plain() + "issue 89 1;"), 9001, 9090, 9090, 9090);
        weights(Check.desk(plain() + "issue 90 1;"), 9000, 9090, 9090, 9090);
        weights(Check.desk(plain() + "issue 91 1;"), 9000, 9089, 9090, 9090);
        weights(Check.desk(plain() + "issue 179 1;"), 9000, 9001, 9090, 9090);
        weights(Check.desk(plain() + "issue 180 1;"), 9000, 9000, 9090, 9090);
        weights(Check.desk(plain() + "issue 269 1;"), 9000, 9000, 9001, 9090);
        weights(Check.desk(plain() + "issue 270 1;"), 9000, 9000, 9000, 9090);
        weights(Check.desk(plain() + "issue 359 1;"), 9000, 9000, 9000, 9001);
        weights(Check.desk(plain() + "issue 0 1;"), 9090, 9090, 9090, 9090);
    }

    private static void onThatDayAndAhead() {
        Check.sentence("EVENTS on that DAY and ahead");
        DilutedDesk desk = Check.desk(plain() + "issue 0 1;buy 100 2;split 200 2;issue 359 3;");
        shares(desk, 0, 101, 202);
        shares(desk, 99, 101, 202);
        shares(desk, 100, 99, 198);
        shares(desk, 199, 99, 198);
        shares(desk, 200, 198, 198);
        shares(desk, 358, 198, 198);
        shares(desk, 359, 201, 201);
    }

    private static void inOrderOfEvents() {
        Check.sentence("in order of EVENTS");
        shares(Check.desk(plain() + "issue 5 7;split 5 3;buy 5 1;"), 5, 107 * 3 - 1, 107 * 3 - 1);
        shares(Check.desk(plain() + "split 5 3;issue 5 7;buy 5 1;"), 5, 100 * 3 + 7 - 1, 100 * 3 + 7 - 1);
        shares(Check.desk(plain() + "buy 5 1;issue 5 7;split 5 3;"), 5, (100 - 1 + 7) * 3, (100 - 1 + 7) * 3);
    }

    private static void laterDay() {
        Check.sentence("RESTATED on a DAY: times A of each split on a later DAY");
        DilutedDesk desk = Check.desk(plain() + "split 10 2;issue 10 5;split 11 3;split 11 4;");
        shares(desk, 9, 100, 2400);
        // The split of that DAY is in SHARES already, also for those issued behind it on that DAY.
        shares(desk, 10, 205, 205 * 12);
        shares(desk, 11, 205 * 12, 205 * 12);
        DilutedDesk last = Check.desk(plain() + "split 359 9;");
        shares(last, 358, 100, 900);
        shares(last, 359, 900, 900);
        DilutedDesk first = Check.desk(plain() + "split 0 9;");
        shares(first, 0, 900, 900);
    }

    private static void laterOrThatOne() {
        Check.sentence("A RUN of quarters: from one to a later (or that) one");
        DilutedDesk desk = Check.desk(year(1, 1, 20, 1, 300, 1, 4000, 1));
        int[] due = {1, 21, 321, 4321, 20, 320, 4320, 300, 4300, 4000};
        int k = 0;
        for (int from = 0; from < 4; from++) {
            for (int to = from; to < 4; to++) {
                Check.due("run(" + from + ", " + to + ", 0)", desk.run(from, to, 0), due[k]);
                Check.due("weight(" + from + ", " + to + ")", desk.weight(from, to), 9000 * (to - from + 1));
                k++;
            }
            int one = from;
            Check.noSuch("run to the one ahead", () -> desk.run(one, one - 1, 0));
            Check.noSuch("weight to the one ahead", () -> desk.weight(one, one - 1));
        }
        Check.noSuch("run to quarter 4", () -> desk.run(3, 4, 0));
        Check.noSuch("run from quarter -1", () -> desk.run(-1, 0, 0));
    }

    private static void weightOfEachDay() {
        Check.sentence("WEIGHT of a RUN: RESTATED SHARES of each of its DAYS, together");
        // Several EVENTS on one DAY, and at both ends of a quarter.
        DilutedDesk desk = Check.desk(plain()
                + "issue 90 10;split 90 2;buy 90 20;issue 179 1;split 179 3;issue 180 6;");
        // RESTATED: 600 to DAY 89, 200 * 3 to 178, 603 on 179, 609 from 180 on.
        weights(desk, 54000, 89 * 600 + 603, 90 * 609, 90 * 609);
        DilutedDesk none = new DilutedDesk();
        weights(none, 90, 90, 90, 90);
    }

    private static void profitsLessLosses() {
        Check.sentence("EARNINGS: profits less losses of its quarters");
        DilutedDesk desk = Check.desk(year(99999, 1, 99999, 1, 99999, 1, 99999, 1));
        Check.due("the most EARNINGS", desk.run(0, 3, 0), 399996);
        DilutedDesk loss = Check.desk(year(-99999, 1, -99999, 1, -99999, 1, -99999, 1));
        Check.due("the least EARNINGS", loss.run(0, 3, 0), -399996);
        DilutedDesk both = Check.desk(year(5, 1, -5, 1, -6, 1, 7, 1));
        Check.due("just none", both.run(0, 1, 0), 0);
        Check.due("one below", both.run(0, 2, 0), -6);
        Check.due("one above", both.run(0, 3, 0), 1);
    }

    private static void countsFromItsDay() {
        Check.sentence("An INSTRUMENT counts from its DAY on");
        int[] days = {0, 89, 90, 91, 359};
        long[][] due = {{90, 90, 90, 90}, {1, 90, 90, 90}, {0, 90, 90, 90}, {0, 89, 90, 90}, {0, 0, 0, 1}};
        String[] ways = {"bond # 1 0;", "earn # 1 profit 0;", "earn # 1 price 0;"};
        for (int k = 0; k < days.length; k++) {
            for (String way : ways) {
                adds(Check.desk(plain() + way.replace("#", "" + days[k])), 0, due[k]);
            }
            // An option of half the price: half of its shares.
            long[] half = new long[4];
            for (int q = 0; q < 4; q++) {
                half[q] = due[k][q] / 2;
            }
            adds(Check.desk(plain() + "option " + days[k] + " 1 5;"), 0, half);
        }
    }

    private static void scaleBehindItsDay() {
        Check.sentence("SCALE of it up to a DAY: A of all splits behind its DAY");
        for (int day = 0; day < 357; day += 89) {
            // Splits on the DAY ahead, on its DAY, and on the DAY behind.
            DilutedDesk ahead = Check.desk(plain() + "split " + day + " 3;bond " + (day + 1) + " 1 0;");
            DilutedDesk on = Check.desk(plain() + "split " + day + " 3;bond " + day + " 1 0;");
            DilutedDesk behind = Check.desk(plain() + "split " + (day + 1) + " 3;bond " + day + " 1 0;");
            Check.due("a split ahead", ahead.instrument(0, 4), 1);
            Check.due("a split on its DAY", on.instrument(0, 4), 1);
            Check.due("a split behind", behind.instrument(0, 4), 3);
        }
        DilutedDesk all = Check.desk(plain() + "split 1 2;split 1 3;split 2 4;bond 0 1 0;bond 1 1 0;bond 2 1 0;");
        Check.due("all three, multiplied", all.instrument(0, 4), 24);
        Check.due("the last one", all.instrument(1, 4), 4);
        Check.due("none", all.instrument(2, 4), 1);
    }

    private static void scaleUpToTheQuarter() {
        Check.sentence("P times SCALE up to the quarter's last DAY");
        // A split on the quarter's last DAY scales its price, one on the DAY behind does not, but OLD it does.
        adds(Check.desk(plain() + "split 89 2;option 0 1 10;"), 0, 90, 90, 90, 90);
        adds(Check.desk(plain() + "split 90 2;option 0 1 10;"), 0, 0, 90, 90, 90);
        adds(Check.desk(plain() + "split 269 2;option 0 1 10;"), 0, 0, 0, 90, 90);
        adds(Check.desk(plain() + "split 270 2;option 0 1 10;"), 0, 0, 0, 0, 90);
        adds(Check.desk(plain() + "split 359 2;option 0 1 10;"), 0, 0, 0, 0, 90);
        adds(Check.desk(plain() + "split 90 2;option 0 1 5;"), 0, 90, 2 * 90 * 15 / 20, 135, 135);
        adds(Check.desk(plain() + "split 359 2;earn 0 1 price 20;"), 0, 0, 0, 0, 180);
        adds(Check.desk(plain() + "split 89 2;earn 0 1 price 20;"), 0, 180, 180, 180, 180);
        adds(Check.desk(plain() + "split 90 2;earn 0 1 price 20;"), 0, 0, 180, 180, 180);
        // On its own DAY a split does not scale the price either.
        adds(Check.desk(plain() + "split 89 2;option 89 1 10;earn 89 1 price 20;"), 0, 0, 0, 0, 0);
        adds(Check.desk(plain() + "split 89 2;option 89 1 10;earn 89 1 price 20;"), 1, 0, 0, 0, 0);
        adds(Check.desk(plain() + "split 89 2;option 88 1 10;"), 0, 2, 90, 90, 90);
    }

    private static void oldUpTo359() {
        Check.sentence("OLD is N times SCALE up to DAY 359");
        DilutedDesk desk = Check.desk(plain() + "split 359 9;bond 358 7 0;bond 359 7 0;");
        Check.due("OLD of DAY 358", desk.instrument(0, 4), 63);
        Check.due("OLD of DAY 359", desk.instrument(1, 4), 7);
        // Also for quarters ahead of the split.
        adds(Check.desk(plain() + "split 359 9;bond 0 7 0;"), 0, 90 * 63, 90 * 63, 90 * 63, 90 * 63);
        DilutedDesk most = Check.desk(plain() + "split 1 9;split 2 9;split 3 9;bond 0 9999 0;");
        Check.due("the most OLD", most.instrument(0, 4), 9999 * 729);
    }

    private static void aboveK() {
        Check.sentence("is above K");
        DilutedDesk desk = Check.desk(year(1, 9, 1, 10, 1, 11, 1, 9999) + "option 0 1 10;");
        adds(desk, 0, 0, 0, 90 * 1 / 11, 90 * 9989 / 9999);
        DilutedDesk least = Check.desk(year(1, 1, 1, 2, 1, 1, 1, 1) + "option 0 1 1;");
        adds(least, 0, 0, 45, 0, 0);
        DilutedDesk most = Check.desk(year(1, 9998, 1, 9999, 1, 5000, 1, 4999) + "split 180 2;option 0 1 9999;");
        adds(most, 0, 0, 0, 2 * 90 * 1 / 10000, 0);
        DilutedDesk more = Check.desk(year(1, 9998, 1, 9999, 1, 5000, 1, 5000) + "split 180 2;option 0 9999 9999;");
        adds(more, 0, 0, 0, 2L * 9999 * 90 / 10000, 2L * 9999 * 90 / 10000);
    }

    private static void optionRoundedDown() {
        Check.sentence("times what that is above K, by that (P times SCALE), rounded down");
        // 89 by 90 of a share is none, 90 by 90 is one: N 1 on 1 DAY, and 90 DAYS, P 90.
        adds(Check.desk(year(1, 90, 1, 90, 1, 90, 1, 90) + "option 89 1 1;"), 0, 0, 89, 89, 89);
        adds(Check.desk(year(1, 90, 1, 90, 1, 91, 1, 89) + "option 0 1 89;"), 0, 1, 1, 1, 0);
        adds(Check.desk(year(1, 91, 1, 91, 1, 91, 1, 91) + "option 0 1 90;"), 0, 0, 0, 0, 0);
        adds(Check.desk(year(1, 91, 1, 91, 1, 91, 1, 91) + "option 0 2 90;"), 0, 1, 1, 1, 1);
    }

    private static void optionQuarterByQuarter() {
        Check.sentence("option: quarter by quarter");
        // 90 by 91 four times would be 3 together; each by itself is none.
        DilutedDesk desk = Check.desk(year(1, 91, 1, 91, 1, 91, 1, 91) + "option 0 1 90;");
        Check.due("adds in the year", desk.adds(0, 0, 3, false), 0);
        DilutedDesk two = Check.desk(year(1, 91, 1, 91, 1, 90, 1, 91) + "option 0 3 90;");
        Check.due("adds in the year", two.adds(0, 0, 3, false), 3 * (270 / 91));
        Check.due("adds in two quarters", two.adds(0, 1, 2, false), 270 / 91);
    }

    private static void bondBy360() {
        Check.sentence("to EARNINGS I times these DAYS by 360, rounded down");
        DilutedDesk desk = Check.desk(plain() + "bond 359 1 359;bond 359 1 360;bond 358 1 359;bond 358 1 180;"
                + "bond 358 1 179;bond 0 1 99999;bond 0 1 3;bond 0 1 4;");
        int[] due = {0, 1, 1, 1, 0, 99999 * 90 / 360, 0, 1};
        for (int i = 0; i < due.length; i++) {
            Check.due("adds(" + i + ", 3, 3) to EARNINGS", desk.adds(i, 3, 3, true), due[i]);
        }
        // The RUN's DAYS together, not quarter by quarter.
        Check.due("3 a year, in the year", desk.adds(6, 0, 3, true), 3);
        Check.due("3 a year, in two quarters", desk.adds(6, 0, 1, true), 1);
        Check.due("3 a year, in one", desk.adds(6, 0, 0, true), 0);
        Check.due("the most, in the year", desk.adds(5, 0, 3, true), 99999);
        Check.due("ahead of its DAY", desk.adds(1, 0, 2, true), 0);
        Check.due("ahead of its DAY, WEIGHT", desk.adds(1, 0, 2, false), 0);
    }

    private static void earnByProfit() {
        Check.sentence("EARNINGS of all quarters from 0 to the RUN's last one are T or more");
        String year = year(100, 1, -1, 1, 2, 1, 0, 1);
        // 100, 99, 101, 101.
        adds(Check.desk(year + "earn 0 1 profit 99;"), 0, 90, 90, 90, 90);
        adds(Check.desk(year + "earn 0 1 profit 100;"), 0, 90, 0, 90, 90);
        adds(Check.desk(year + "earn 0 1 profit 101;"), 0, 0, 0, 90, 90);
        adds(Check.desk(year + "earn 0 1 profit 102;"), 0, 0, 0, 0, 0);
        adds(Check.desk(year(0, 1, -1, 1, 1, 1, -2, 1) + "earn 0 1 profit 0;"), 0, 90, 0, 90, 0);
        adds(Check.desk(year(99998, 1, 1, 1, 0, 1, 0, 1) + "earn 0 1 profit 99999;"), 0, 0, 90, 90, 90);
    }

    private static void earnFromQuarter0() {
        Check.sentence("from 0 to the RUN's last one");
        DilutedDesk desk = Check.desk(year(50, 1, 30, 1, 20, 1, -1, 1) + "earn 0 1 profit 100;");
        Check.due("quarter 2 alone", desk.adds(0, 2, 2, false), 90);
        Check.due("quarters 1 and 2", desk.adds(0, 1, 2, false), 180);
        Check.due("quarters 0 and 1", desk.adds(0, 0, 1, false), 0);
        Check.due("the year", desk.adds(0, 0, 3, false), 0);
        Check.due("quarters 2 and 3", desk.adds(0, 2, 3, false), 0);
    }

    private static void earnByPrice() {
        Check.sentence("P of the RUN's last quarter times SCALE up to its last DAY is T or more");
        String year = year(1, 9, 1, 10, 1, 11, 1, 9);
        adds(Check.desk(year + "earn 0 1 price 9;"), 0, 90, 90, 90, 90);
        adds(Check.desk(year + "earn 0 1 price 10;"), 0, 0, 90, 90, 0);
        adds(Check.desk(year + "earn 0 1 price 11;"), 0, 0, 0, 90, 0);
        adds(Check.desk(year + "earn 0 1 price 12;"), 0, 0, 0, 0, 0);
        DilutedDesk desk = Check.desk(year + "earn 0 1 price 10;");
        Check.due("the last quarter's is enough", desk.adds(0, 0, 1, false), 180);
        Check.due("a quarter ahead is not", desk.adds(0, 1, 3, false), 0);
        // 9 times 2 and 4 to 72.
        adds(Check.desk(year + "split 200 2;split 300 4;earn 0 1 price 72;"), 0, 0, 0, 0, 720);
        adds(Check.desk(year + "split 200 2;split 300 4;earn 0 1 price 73;"), 0, 0, 0, 0, 0);
        adds(Check.desk(year(1, 1, 1, 1, 1, 1, 1, 9999) + "split 270 9;split 359 2;earn 0 1 price 99999;"),
                0, 0, 0, 0, 90 * 18);
    }

    private static void nothingToEarnings() {
        Check.sentence("nothing to EARNINGS");
        DilutedDesk desk = Check.desk(plain() + "option 0 1 1;earn 0 1 profit 99;earn 0 1 price 9;bond 0 1 360;");
        for (int i = 0; i < 4; i++) {
            Check.due("adds(" + i + ", 0, 3) to EARNINGS", desk.adds(i, 0, 3, true), i == 3 ? 360 : 0);
        }
    }

    private static void hasNoHarm() {
        Check.sentence("one that ADDS nothing to WEIGHT has none");
        String instruments = "option 0 1 90;option 0 2 90;bond 359 1 0;earn 0 1 profit 5;earn 0 1 price 92;";
        DilutedDesk desk = Check.desk(year(4, 91, 1, 91, 0, 90, 0, 92) + instruments);
        ranks(desk, 0, 0, 1);
        ranks(desk, 1, 1, 1, 3);
        ranks(desk, 2, 2, 3);
        ranks(desk, 3, 3, 0, 1, 2, 3, 4);
        Check.due("none in quarter 0 but one", desk.run(0, 0, 4), 1);
        Check.due("all in quarter 3", desk.run(3, 3, 4), 5);
        DilutedDesk late = Check.desk(plain() + "bond 90 1 99999;");
        taken(late, 0, 0, 0, 0, -1);
        taken(late, 1, 1, 0, 1, 0);
    }

    private static void leastHarmFirst() {
        Check.sentence("RANK: INSTRUMENTS that have HARM, the least HARM first");
        // HARM in the year: I by 360 N.
        DilutedDesk desk = Check.desk(plain() + "bond 0 9999 99999;bond 0 9998 99989;bond 0 9999 99998;bond 0 1 0;"
                + "bond 0 1 99999;bond 0 1 1;");
        // 99999 by 9999 is above 10.0009, 99989 by 9998 is a bit more than that, 99998 by 9999 a bit less.
        ranks(desk, 0, 3, 3, 5, 2, 0, 1, 4);
        DilutedDesk turned = Check.desk(plain() + "bond 0 1 4;bond 0 1 3;bond 0 1 2;bond 0 1 1;bond 0 1 0;");
        ranks(turned, 0, 3, 4, 3, 2, 1, 0);
    }

    private static void ofLikeOnesTheFirst() {
        Check.sentence("of like ones the first");
        ranks(Check.desk(plain() + "bond 0 1 7;".repeat(8)), 0, 3, 0, 1, 2, 3, 4, 5, 6, 7);
        ranks(Check.desk(plain() + "bond 0 3 21;bond 0 1 7;bond 0 2 14;bond 0 2 13;bond 0 2 15;"), 0, 3, 3, 0, 1, 2, 4);
        ranks(Check.desk(plain() + "earn 0 1 price 0;option 0 1 1;bond 0 1 0;earn 0 9 profit 0;"), 0, 3, 0, 1, 2, 3);
        // Rounded EARNINGS alone make these like: 3 and 0 a year ADD none to quarter 0.
        ranks(Check.desk(plain() + "bond 0 1 3;bond 0 1 0;"), 0, 0, 0, 1);
        ranks(Check.desk(plain() + "bond 0 1 4;bond 0 1 0;"), 0, 0, 1, 0);
    }

    private static void becomeLess() {
        Check.sentence("as long as EARNINGS by WEIGHT, both with what is ADDED, become less by it");
        // 100 shares earn 400: 4 a share in the year.
        taken(Check.desk(plain() + "bond 0 1 3;"), 0, 3, 1, 1, -1);
        taken(Check.desk(plain() + "bond 0 1 4;"), 0, 3, 0, 1, 0);
        taken(Check.desk(plain() + "bond 0 1 5;"), 0, 3, 0, 1, 0);
        taken(Check.desk(plain() + "bond 0 9999 39995;"), 0, 3, 1, 1, -1);
        taken(Check.desk(plain() + "bond 0 9999 39996;"), 0, 3, 0, 1, 0);
        // EARNINGS of 1, 0 and -1 with one that ADDS shares alone.
        String earn = "earn 0 1 price 0;";
        taken(Check.desk(year(1, 1, 0, 1, 0, 1, 0, 1) + earn), 0, 0, 1, 1, -1);
        taken(Check.desk(year(1, 1, 0, 1, 0, 1, 0, 1) + earn), 1, 1, 0, 1, 0);
        taken(Check.desk(year(-1, 1, 0, 1, 0, 1, 0, 1) + earn), 0, 0, 0, 1, 0);
        // Less by too little to be seen in the answer, and taken in all the same.
        DilutedDesk many = Check.desk("shares 99999;" + "quarter profit 1 price 1;".repeat(4) + earn);
        taken(many, 0, 3, 1, 1, -1);
        Check.due("DILUTED is as BASIC to the eye", many.run(0, 3, 2), many.run(0, 3, 1));
    }

    private static void firstEndsIt() {
        Check.sentence("the first that does not make them less ends it");
        // 4 a share; 1 is taken in by 0, 2 stays out by 5, 0 behind it is not looked at.
        taken(Check.desk(plain() + "bond 0 1 6;earn 0 1 price 0;bond 0 1 5;"), 0, 3, 2, 3, 2);
        taken(Check.desk(plain() + "bond 0 1 4;bond 0 1 4;"), 0, 3, 0, 2, 0);
        taken(Check.desk(plain() + "bond 0 1 3;".repeat(8)), 0, 3, 255, 8, -1);
        taken(Check.desk(plain() + "bond 0 1 3;".repeat(7) + "bond 0 1 4;"), 0, 3, 127, 8, 7);
        taken(Check.desk(plain()), 0, 3, 0, 0, -1);
    }

    private static void bothWithWhatIsAdded() {
        Check.sentence("both with what is ADDED");
        // 400 by 100; with 100 shares of 2 each 600 by 200: 3. Then 3 a share does not make it less, 2.99 does.
        taken(Check.desk(plain() + "bond 0 100 200;bond 0 100 300;"), 0, 3, 1, 2, 1);
        taken(Check.desk(plain() + "bond 0 100 200;bond 0 100 299;"), 0, 3, 3, 2, -1);
        taken(Check.desk(plain() + "bond 0 100 201;bond 0 100 300;"), 0, 3, 3, 2, -1);
        // A loss that a bond's EARNINGS turn round is not taken in: it became more.
        taken(Check.desk(year(-1, 1, 0, 1, 0, 1, 0, 1) + "bond 0 1 8;"), 0, 0, 0, 1, 0);
    }

    private static void roundedDown() {
        Check.sentence("by WEIGHT, rounded down (also below 0)");
        String three = "shares 3;quarter profit 2 price 1;quarter loss 2 price 1;quarter profit 3 price 1;"
                + "quarter loss 3 price 1;";
        DilutedDesk desk = Check.desk(three);
        Check.due("666.67", desk.run(0, 0, 1), 666);
        Check.due("-666.67", desk.run(1, 1, 1), -667);
        Check.due("1000 just", desk.run(2, 2, 1), 1000);
        Check.due("-1000 just", desk.run(3, 3, 1), -1000);
        Check.due("-666.67, DILUTED", desk.run(1, 1, 2), -667);
        Check.due("-666.67, with none", desk.with(0, 1, 1), -667);
        String many = "shares 99999;quarter profit 1 price 1;quarter loss 1 price 1;quarter profit 99 price 1;"
                + "quarter profit 100 price 1;";
        DilutedDesk little = Check.desk(many);
        Check.due("a bit above 0", little.run(0, 0, 1), 0);
        Check.due("a bit below 0", little.run(1, 1, 1), -1);
        Check.due("0 just", little.run(0, 1, 1), 0);
        Check.due("a bit below 1", little.run(2, 2, 1), 0);
        Check.due("a bit above 1", little.run(3, 3, 1), 1);
    }

    private static void timesDays() {
        Check.sentence("EARNINGS times 1000 times DAYS of the RUN, by WEIGHT");
        DilutedDesk desk = Check.desk(year(7, 1, 7, 1, 7, 1, 7, 1));
        for (int from = 0; from < 4; from++) {
            for (int to = from; to < 4; to++) {
                Check.due("run(" + from + ", " + to + ", 1)", desk.run(from, to, 1), 70 * (to - from + 1));
            }
        }
    }

    private static void basicAndDiluted() {
        Check.sentence("BASIC: without, DILUTED: with what the SET ADDS");
        DilutedDesk desk = Check.desk(plain() + "bond 0 100 200;bond 0 100 300;");
        Check.due("BASIC", desk.run(0, 3, 1), 4000);
        Check.due("DILUTED", desk.run(0, 3, 2), 3000);
        DilutedDesk none = Check.desk(plain() + "bond 0 100 400;");
        Check.due("DILUTED with an empty SET", none.run(0, 3, 2), 4000);
        DilutedDesk loss = Check.desk(year(-7, 1, 0, 1, 0, 1, 0, 1) + "earn 0 100 price 0;");
        Check.due("a loss is not watered", loss.run(0, 0, 2), -70);
    }

    /** No product wraps round: the most shares, splits, prices and interest at once. */
    private static void largest() {
        Check.sentence("1 to 99999; 1 to 9999; 2 to 9; 20 EVENTS, 3 splits, 8 INSTRUMENTS at most");
        String head = "shares 99999;" + "quarter profit 99999 price 9999;".repeat(4);
        DilutedDesk desk = Check.desk(head + "issue 0 99999;".repeat(17) + "split 1 9;".repeat(3)
                + "bond 0 9999 99999;");
        int most = 18 * 99999 * 729;
        Check.due("the most SHARES", desk.now(3), most);
        Check.due("the most RESTATED", desk.shares(0, true), most);
        Check.due("the most WEIGHT", desk.weight(0, 3), 360L * most);
        Check.due("the most a bond ADDS", desk.adds(0, 0, 3, false), 360L * 9999 * 729);
        for (int i = 1; i < 8; i++) {
            desk.grants(1, 0, 9999, 99999 - i);
        }
        // A share earns 0.0003 a year, a bond's 0.0137: none makes it less.
        taken(desk, 0, 3, 0, 8, 7);
        Check.due("with all", desk.with(255, 0, 3), (399996L + 8 * 99999 - 28) * 1000 / (most + 8L * 9999 * 729));
        DilutedDesk options = Check.desk(head + "split 1 9;".repeat(3) + "option 0 9999 1;");
        long scaled = 9999L * 729;
        Check.due("the most an option ADDS", options.adds(0, 0, 0, false), scaled * 90 * (scaled - 1) / scaled);
        DilutedDesk few = Check.desk("shares 1;" + "quarter profit 99999 price 1;".repeat(4));
        Check.due("the most of A SHARE's EARNINGS", few.run(0, 3, 2), 399996000);
        DilutedDesk fewer = Check.desk("shares 1;" + "quarter loss 99999 price 1;".repeat(4));
        Check.due("the least of A SHARE's EARNINGS", fewer.run(0, 3, 2), -399996000);
    }
}
