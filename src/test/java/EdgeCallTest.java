/** The edges of promises 1 to 14: each sentence that names one, at it and at the case next to it. */
public final class EdgeCallTest {
    private static final int LEAST = Integer.MIN_VALUE;
    private static final int MOST = Integer.MAX_VALUE;
    private static final String HEAD = "shares 100;quarter profit 10 price 11;quarter loss 20 price 22;"
            + "quarter profit 30 price 33;quarter profit 40 price 44;";
    private static final String YEAR = HEAD + "issue 10 20;split 20 3;buy 20 60;option 5 7 8;bond 20 9 0;"
            + "earn 0 1 profit 5;earn 359 2 price 6;";

    public static void main(String[] args) {
        newObject();
        feedUpTo740();
        noneCome();
        highestFirst();
        endAlone();
        endRefused();
        textEmptiesTheTape();
        emptyText();
        textCountsLines();
        placeOfAFault();
        allStays();
        nothingCanBeUndone();
        faultOfTheLatest();
        now();
        nowLatestDay();
        nowUndo();
        nowTape();
        shares();
        quarter();
        event();
        eventFullAndEmpty();
        instrument();
        instrumentFullAndEmpty();
        noSuchRuns();
        addsNoSuchOne();
        runAnotherWhat();
        runEnder();
        runHarm();
        rankNoneSuch();
        throwsChangeNothing();
        atMost512Calls();
        Check.finish();
    }

    private static void asAtFirst(DilutedDesk desk) {
        Check.same("a desk as at first", Check.state(desk), Check.state(new DilutedDesk()));
        for (int q = 0; q < 4; q++) {
            Check.due("profit of " + q, desk.quarter(q, 0), 0);
            Check.due("price of " + q, desk.quarter(q, 1), 1);
        }
        int[] due = {0, 0, 0, 1, -1, 0};
        for (int what = 0; what < due.length; what++) {
            Check.due("now(" + what + ")", desk.now(what), due[what]);
        }
        Check.due("shares(0, false)", desk.shares(0, false), 1);
        Check.due("shares(359, true)", desk.shares(359, true), 1);
        Check.due("event(0, 0)", desk.event(0, 0), -1);
        Check.due("instrument(0, 0)", desk.instrument(0, 0), -1);
        Check.due("weight(0, 3)", desk.weight(0, 3), 360);
        Check.due("run(0, 3, 4)", desk.run(0, 3, 4), 0);
        Check.due("rank(0, 3, 0)", desk.rank(0, 3, 0), -1);
        Check.due("undo()", desk.undo(), -1);
    }

    private static void newObject() {
        Check.sentence("1 share, four quarters of profit 0, price 1, nothing else; an empty tape");
        DilutedDesk desk = new DilutedDesk();
        asAtFirst(desk);
        Check.due("bytes of the tape", desk.now(6), 0);
        Check.due("end(1)", desk.end(1), false);
        Check.due("the least bought is too many", desk.tells(1, 0, 1), -1);
        // One desk's changes are not another's.
        desk.tells(0, 0, 5);
        desk.feed(1, 2, 3, 4, 5);
        asAtFirst(new DilutedDesk());
    }

    private static void feedUpTo740() {
        Check.sentence("NONE, and none come, if it would have more than 740");
        DilutedDesk desk = new DilutedDesk();
        for (int bytes = 20; bytes <= 740; bytes += 20) {
            Check.due("feed to " + bytes, desk.feed(0, 0, 0, 0, 0), bytes);
        }
        Check.due("feed to 760", desk.feed(0, 0, 0, 0, 0), -1);
        Check.due("end(721)", desk.end(721), true);
        Check.due("feed to 741", desk.feed(0, 0, 0, 0, 0), -1);
        Check.due("end(720)", desk.end(720), true);
        Check.due("feed to 740", desk.feed(0, 0, 0, 0, 0), 740);
        Check.due("end(719)", desk.end(719), true);
        Check.due("feed to 739", desk.feed(0, 0, 0, 0, 0), 739);
        Check.due("feed to 759", desk.feed(0, 0, 0, 0, 0), -1);
        Check.due("feed refused again", desk.feed(0, 0, 0, 0, 0), -1);
        Check.due("text() makes room", desk.text(), -1);
        Check.due("feed to 20", desk.feed(0, 0, 0, 0, 0), 20);
    }

    private static void noneCome() {
        Check.sentence("and none come");
        DilutedDesk desk = new DilutedDesk();
        Check.feed(desk, HEAD + " ".repeat(740 - HEAD.length()));
        Check.due("end(721)", desk.end(721), true);
        Check.due("feed of ????", desk.feed(0x3f3f3f3f, 0x3f3f3f3f, 0x3f3f3f3f, 0x3f3f3f3f, 0x3f3f3f3f), -1);
        Check.due("bytes behind it", desk.now(6), 721);
        Check.due("end(722)", desk.end(722), false);
        Check.due("end(700)", desk.end(700), true);
        Check.due("the text is whole", desk.text(), 5);
    }

    private static void highestFirst() {
        Check.sentence("Twenty bytes come behind the tape, of each number the highest first");
        String text = "shares 12345;quarter";
        for (int wrongAt = 0; wrongAt < 20; wrongAt++) {
            // One byte is told wrong, with its sign bit: the FAULT is where it, or the TOKEN that it ends, begins.
            int[] five = new int[5];
            for (int k = 0; k < 20; k++) {
                five[k / 4] |= (k == wrongAt ? 255 : text.charAt(k)) << 24 - k % 4 * 8;
            }
            DilutedDesk desk = new DilutedDesk();
            Check.due("feed", desk.feed(five[0], five[1], five[2], five[3], five[4]), 20);
            int due = wrongAt < 6 ? 0 : wrongAt > 12 ? 13 : wrongAt;
            // A byte at 0 or 13 is no TOKEN itself; a WORD or NUMBER cut by one behind its first is looked at first.
            Check.due("text() with byte " + wrongAt + " wrong", desk.text(), -1 - due);
        }
    }

    private static void endAlone() {
        Check.sentence("The tape has its first n bytes alone: true");
        DilutedDesk desk = new DilutedDesk();
        Check.due("end(0) of none", desk.end(0), true);
        Check.feed(desk, HEAD + "????");
        int bytes = HEAD.length() + 4;
        Check.due("end of all", desk.end(bytes), true);
        Check.due("bytes then", desk.now(6), bytes);
        Check.due("end of all but one", desk.end(bytes - 1), true);
        Check.due("bytes then", desk.now(6), bytes - 1);
        Check.due("end of as many as before", desk.end(bytes), false);
        Check.due("end of the good ones", desk.end(HEAD.length()), true);
        Check.due("text()", desk.text(), 5);
        Check.feed(desk, "????");
        Check.due("end(0)", desk.end(0), true);
        Check.due("bytes then", desk.now(6), 0);
        Check.feed(desk, HEAD);
        Check.due("what was cut is gone", desk.text(), 5);
    }

    private static void endRefused() {
        Check.sentence("false, if it has not so many, or n is below 0");
        DilutedDesk desk = new DilutedDesk();
        for (int n : new int[] {1, -1, LEAST, MOST}) {
            Check.due("end(" + n + ") of none", desk.end(n), false);
        }
        desk.feed(1, 2, 3, 4, 5);
        for (int n : new int[] {21, -1, 740, LEAST, MOST}) {
            Check.due("end(" + n + ") of 20", desk.end(n), false);
            Check.due("bytes then", desk.now(6), 20);
        }
        Check.due("end(20)", desk.end(20), true);
        Check.due("end(0)", desk.end(0), true);
    }

    private static void textEmptiesTheTape() {
        Check.sentence("The tape (empty then, even with a FAULT)");
        DilutedDesk desk = new DilutedDesk();
        Check.tell(desk, HEAD);
        Check.due("bytes behind a TEXT", desk.now(6), 0);
        Check.tell(desk, "shares 1;?");
        Check.due("bytes behind a FAULT", desk.now(6), 0);
        Check.due("end(1) behind a FAULT", desk.end(1), false);
        Check.tell(desk, " ".repeat(740));
        Check.due("bytes behind 740", desk.now(6), 0);
        Check.due("a TEXT behind it", Check.tell(desk, HEAD), 5);
    }

    private static void emptyText() {
        Check.sentence("(an empty one: as at first)");
        DilutedDesk desk = Check.desk(YEAR);
        desk.earns(0, 5);
        Check.due("text() of no bytes", desk.text(), 0);
        asAtFirst(desk);
        Check.tell(desk, YEAR);
        Check.due("text() of a blank", Check.tell(desk, " "), 0);
        asAtFirst(desk);
        // Nothing of any TEXT ahead is left.
        Check.tell(desk, YEAR);
        Check.tell(desk, YEAR);
        Check.due("text() of no bytes behind two", desk.text(), 0);
        asAtFirst(desk);
        Check.tell(desk, YEAR);
        Check.due("text() of one that is no blank", Check.tell(desk, ";"), -1);
        Check.due("all stays by it", desk.now(0), 3);
        // What a tape cut to nothing held is gone.
        Check.feed(desk, HEAD);
        desk.end(0);
        Check.due("text() of a tape cut to nothing", desk.text(), 0);
        asAtFirst(desk);
    }

    private static void textCountsLines() {
        Check.sentence("how many LINES");
        Check.good("", 0);
        Check.good(HEAD, 5);
        Check.good(HEAD + "issue 1 1;", 6);
        Check.good(HEAD + "issue 1 1;".repeat(20) + "bond 1 1 1;".repeat(7), 32);
        Check.good(HEAD + "issue 1 1;".repeat(20) + "bond 1 1 1;".repeat(8), 33);
    }

    private static void placeOfAFault() {
        Check.sentence("-1 less the place of a FAULT");
        DilutedDesk desk = new DilutedDesk();
        Check.due("text() of ?", Check.tell(desk, "?"), -1);
        Check.due("text() of a blank and ?", Check.tell(desk, " ?"), -2);
        String filled = HEAD + " ".repeat(699 - HEAD.length());
        Check.due("text() with the last byte wrong", Check.tell(desk, filled + "?"), -700);
        Check.due("text() with a byte more", Check.tell(desk, filled + "  "), -701);
        Check.due("text() with the most bytes", Check.tell(desk, filled + " ".repeat(41)), -701);
    }

    private static void allStays() {
        Check.sentence("-1 less the place of a FAULT: all stays");
        DilutedDesk desk = Check.desk(YEAR);
        desk.prices(0, 12);
        String before = Check.state(desk);
        String[] faults = {"?", "shares 5", "shares 5;", "shares 5;" + HEAD.substring(11) + "issue 1 1;bond 1 1 1;x",
            HEAD + "split 1 2;".repeat(4), " ".repeat(701)};
        for (String fault : faults) {
            Check.due("text() has a FAULT", Check.tell(desk, fault) < 0, true);
        }
        Check.same("behind them all", Check.state(desk), before);
        Check.due("undo()", desk.undo(), 0);
        Check.due("undone", desk.quarter(0, 1), 11);
    }

    private static void nothingCanBeUndone() {
        Check.sentence("A new TEXT: nothing can be undone");
        DilutedDesk desk = new DilutedDesk();
        String[] texts = {YEAR, "", "\n"};
        for (String text : texts) {
            desk.earns(0, 5);
            desk.tells(0, 359, 5);
            Check.due("what can be undone", desk.now(5), 2);
            Check.due("text()", Check.tell(desk, text) >= 0, true);
            Check.due("what can be undone then", desk.now(5), 0);
            String before = Check.state(desk);
            Check.due("undo()", desk.undo(), -1);
            Check.same("behind it", Check.state(desk), before);
        }
        desk.earns(0, 5);
        Check.tell(desk, "?");
        Check.due("what can be undone behind a FAULT", desk.now(5), 1);
    }

    private static void faultOfTheLatest() {
        Check.sentence("The kind of the FAULT of the latest text(); 0 without one and ahead of any");
        DilutedDesk desk = new DilutedDesk();
        Check.due("ahead of any", desk.fault(), 0);
        desk.feed(0, 0, 0, 0, 0);
        Check.due("a tape not yet read", desk.fault(), 0);
        desk.text();
        Check.due("of no TOKEN", desk.fault(), 1);
        Check.due("again", desk.fault(), 1);
        Check.tell(desk, "shares 0");
        Check.due("of a NUMBER", desk.fault(), 2);
        Check.tell(desk, HEAD + "split 1 2;".repeat(4));
        Check.due("of one more", desk.fault(), 3);
        desk.earns(0, 5);
        desk.undo();
        Check.feed(desk, HEAD);
        Check.due("until the next text()", desk.fault(), 3);
        desk.text();
        Check.due("without one", desk.fault(), 0);
        Check.tell(desk, "?");
        desk.text();
        Check.due("of an empty TEXT", desk.fault(), 0);
    }

    private static void now() {
        Check.sentence("0 EVENTS, 1 INSTRUMENTS, 2 splits, .. NONE for another what");
        DilutedDesk desk = Check.desk(YEAR);
        int[] due = {3, 4, 1, 300, 20, 0, 0};
        for (int what = 0; what < due.length; what++) {
            Check.due("now(" + what + ")", desk.now(what), due[what]);
        }
        for (int what : new int[] {-1, 7, 8, LEAST, MOST}) {
            Check.due("now(" + what + ")", desk.now(what), -1);
        }
        Check.due("SHARES on DAY 359", Check.desk(HEAD + "issue 359 1;").now(3), 101);
    }

    private static void nowLatestDay() {
        Check.sentence("4 the latest EVENT's DAY (NONE)");
        DilutedDesk desk = Check.desk(HEAD + "bond 7 1 1;");
        Check.due("without one", desk.now(4), -1);
        desk.tells(0, 0, 1);
        Check.due("on DAY 0", desk.now(4), 0);
        desk.tells(0, 359, 1);
        Check.due("on DAY 359", desk.now(4), 359);
        desk.undo();
        Check.due("back on DAY 0", desk.now(4), 0);
        desk.undo();
        Check.due("again without one", desk.now(4), -1);
    }

    private static void nowUndo() {
        Check.sentence("5 what can be undone");
        DilutedDesk desk = Check.desk(HEAD);
        for (int done = 1; done <= 12; done++) {
            desk.earns(0, done);
            Check.due("behind " + done, desk.now(5), Math.min(done, 10));
        }
        desk.undo();
        Check.due("behind an undo()", desk.now(5), 9);
    }

    private static void nowTape() {
        Check.sentence("6 bytes of the tape");
        DilutedDesk desk = new DilutedDesk();
        Check.due("none", desk.now(6), 0);
        for (int bytes = 20; bytes <= 740; bytes += 20) {
            desk.feed(0, 0, 0, 0, 0);
            Check.due("behind a feed", desk.now(6), bytes);
        }
        desk.feed(0, 0, 0, 0, 0);
        Check.due("a full one", desk.now(6), 740);
        desk.end(1);
        Check.due("one", desk.now(6), 1);
    }

    private static void shares() {
        Check.sentence("SHARES on a DAY, or RESTATED. NONE: no such DAY");
        DilutedDesk desk = Check.desk(HEAD + "split 359 2;");
        Check.due("shares(0, false)", desk.shares(0, false), 100);
        Check.due("shares(0, true)", desk.shares(0, true), 200);
        Check.due("shares(359, false)", desk.shares(359, false), 200);
        Check.due("shares(359, true)", desk.shares(359, true), 200);
        for (int day : new int[] {-1, 360, LEAST, MOST}) {
            Check.due("shares(" + day + ", false)", desk.shares(day, false), -1);
            Check.due("shares(" + day + ", true)", desk.shares(day, true), -1);
        }
    }

    private static void quarter() {
        Check.sentence("NoSuchElementException: no such one, another what");
        DilutedDesk desk = Check.desk(HEAD);
        int[] profits = {10, -20, 30, 40};
        for (int q = 0; q < 4; q++) {
            Check.due("quarter(" + q + ", 0)", desk.quarter(q, 0), profits[q]);
            Check.due("quarter(" + q + ", 1)", desk.quarter(q, 1), 11 * (q + 1));
        }
        for (int q : new int[] {-1, 4, LEAST, MOST}) {
            Check.noSuch("quarter(" + q + ", 0)", () -> desk.quarter(q, 0));
            Check.noSuch("quarter(" + q + ", 1)", () -> desk.quarter(q, 1));
            Check.noSuch("quarter(" + q + ", 2)", () -> desk.quarter(q, 2));
        }
        for (int what : new int[] {-1, 2, LEAST, MOST}) {
            Check.noSuch("quarter(0, " + what + ")", () -> desk.quarter(0, what));
            Check.noSuch("quarter(3, " + what + ")", () -> desk.quarter(3, what));
        }
    }

    private static void event() {
        Check.sentence("Of EVENT k 0 its sort (0 issue, 1 buy, 2 split), 1 DAY, 2 N, A. NONE: none such, another what");
        DilutedDesk desk = Check.desk(YEAR);
        int[][] due = {{0, 10, 20}, {2, 20, 3}, {1, 20, 60}};
        for (int k = 0; k < due.length; k++) {
            for (int what = 0; what < 3; what++) {
                Check.due("event(" + k + ", " + what + ")", desk.event(k, what), due[k][what]);
            }
            for (int what : new int[] {-1, 3, LEAST, MOST}) {
                Check.due("event(" + k + ", " + what + ")", desk.event(k, what), -1);
            }
        }
        for (int k : new int[] {-1, 3, 19, 20, LEAST, MOST}) {
            for (int what = -1; what <= 3; what++) {
                Check.due("event(" + k + ", " + what + ")", desk.event(k, what), -1);
            }
        }
    }

    private static void eventFullAndEmpty() {
        Check.sentence("event: NONE: none such");
        DilutedDesk desk = Check.desk(HEAD + "issue 1 1;".repeat(19));
        Check.due("the 20th ahead", desk.event(19, 2), -1);
        desk.tells(0, 2, 7);
        Check.due("the 20th", desk.event(19, 2), 7);
        Check.due("the 21st", desk.event(20, 2), -1);
        desk.undo();
        Check.due("the 20th undone", desk.event(19, 2), -1);
        desk.text();
        Check.due("the first of none", desk.event(0, 0), -1);
    }

    private static void instrument() {
        Check.sentence("Of an INSTRUMENT 0 its sort .. 4 OLD. NONE: no such one, another what");
        DilutedDesk desk = Check.desk(YEAR);
        int[][] due = {{0, 5, 7, 8, 21}, {1, 20, 9, 0, 9}, {2, 0, 1, 5, 3}, {3, 359, 2, 6, 2}};
        for (int i = 0; i < due.length; i++) {
            for (int what = 0; what < 5; what++) {
                Check.due("instrument(" + i + ", " + what + ")", desk.instrument(i, what), due[i][what]);
            }
            for (int what : new int[] {-1, 5, LEAST, MOST}) {
                Check.due("instrument(" + i + ", " + what + ")", desk.instrument(i, what), -1);
            }
        }
        for (int i : new int[] {-1, 4, 7, 8, LEAST, MOST}) {
            for (int what = -1; what <= 5; what++) {
                Check.due("instrument(" + i + ", " + what + ")", desk.instrument(i, what), -1);
            }
        }
    }

    private static void instrumentFullAndEmpty() {
        Check.sentence("instrument: NONE: no such one");
        DilutedDesk desk = Check.desk(HEAD + "bond 1 1 1;".repeat(7));
        Check.due("the eighth ahead", desk.instrument(7, 2), -1);
        desk.grants(1, 2, 7, 7);
        Check.due("the eighth", desk.instrument(7, 2), 7);
        Check.due("the ninth", desk.instrument(8, 2), -1);
        desk.undo();
        Check.due("the eighth undone", desk.instrument(7, 2), -1);
        desk.text();
        Check.due("the first of none", desk.instrument(0, 0), -1);
    }

    private static void noSuchRuns() {
        Check.sentence("NoSuchElementException: no such RUN");
        DilutedDesk desk = Check.desk(YEAR);
        int[][] none = {{-1, -1}, {-1, 0}, {-1, 3}, {0, -1}, {0, 4}, {1, 0}, {2, 1}, {3, 2}, {3, 0}, {3, 4}, {4, 4},
            {4, 3}, {LEAST, MOST}, {MOST, LEAST}, {LEAST, LEAST}, {MOST, MOST}, {0, MOST}, {LEAST, 3}};
        for (int[] run : none) {
            int from = run[0];
            int to = run[1];
            String told = " from " + from + " to " + to;
            Check.noSuch("weight" + told, () -> desk.weight(from, to));
            Check.noSuch("adds" + told, () -> desk.adds(1, from, to, false));
            Check.noSuch("adds to EARNINGS" + told, () -> desk.adds(1, from, to, true));
            Check.noSuch("run" + told, () -> desk.run(from, to, 0));
            Check.noSuch("rank" + told, () -> desk.rank(from, to, 0));
            Check.noSuch("rank of none" + told, () -> desk.rank(from, to, 8));
        }
        for (int from = 0; from < 4; from++) {
            for (int to = from; to < 4; to++) {
                Check.due("weight is one", desk.weight(from, to) > 0, true);
                Check.due("adds is one", desk.adds(2, from, to, true), 0);
                Check.due("rank is one", desk.rank(from, to, 8), -1);
            }
        }
    }

    private static void addsNoSuchOne() {
        Check.sentence("adds: NoSuchElementException, too: no such one");
        DilutedDesk desk = Check.desk(HEAD + "bond 0 1 360;".repeat(7));
        Check.due("adds(0) to WEIGHT", desk.adds(0, 0, 3, false), 360);
        Check.due("adds(6) to EARNINGS", desk.adds(6, 0, 3, true), 360);
        for (int i : new int[] {-1, 7, 8, LEAST, MOST}) {
            Check.noSuch("adds(" + i + ") to WEIGHT", () -> desk.adds(i, 0, 3, false));
            Check.noSuch("adds(" + i + ") to EARNINGS", () -> desk.adds(i, 0, 3, true));
            Check.noSuch("adds(" + i + ") in no RUN", () -> desk.adds(i, 3, 0, true));
        }
        desk.grants(1, 0, 2, 0);
        Check.due("adds(7)", desk.adds(7, 0, 3, false), 720);
        Check.noSuch("adds(8)", () -> desk.adds(8, 0, 3, false));
        desk.undo();
        Check.noSuch("adds(7) undone", () -> desk.adds(7, 0, 3, false));
    }

    private static void runAnotherWhat() {
        Check.sentence("run: NoSuchElementException, too: another what");
        DilutedDesk desk = Check.desk(HEAD + "earn 0 100 price 0;");
        int[] due = {10, 100, 50, 1, 1, -1};
        for (int what = 0; what < due.length; what++) {
            Check.due("run(0, 0, " + what + ")", desk.run(0, 0, what), due[what]);
        }
        for (int what : new int[] {-1, 6, LEAST, MOST}) {
            Check.noSuch("run(0, 0, " + what + ")", () -> desk.run(0, 0, what));
            Check.noSuch("run(1, 0, " + what + ")", () -> desk.run(1, 0, what));
        }
    }

    private static void runEnder() {
        Check.sentence("5 the INSTRUMENT that ended it (NONE)");
        Check.due("without any", Check.desk(HEAD).run(0, 0, 5), -1);
        DilutedDesk eight = Check.desk(HEAD + "earn 0 1 price 0;".repeat(8));
        Check.due("all taken in", eight.run(0, 0, 5), -1);
        Check.due("the first of them", eight.run(1, 1, 5), 0);
        DilutedDesk seven = Check.desk(HEAD + "earn 0 1 price 0;".repeat(7) + "bond 0 1 99999;");
        Check.due("the last of them", seven.run(0, 0, 5), 7);
        Check.due("one without HARM ends nothing", Check.desk(HEAD + "bond 90 1 99999;").run(0, 0, 5), -1);
    }

    private static void runHarm() {
        Check.sentence("3 the SET (bits), 4 how many have HARM");
        DilutedDesk all = Check.desk(HEAD + "earn 0 1 price 0;".repeat(8));
        Check.due("all eight", all.run(0, 0, 3), 255);
        Check.due("eight have HARM", all.run(0, 0, 4), 8);
        Check.due("none in a loss", all.run(1, 1, 3), 0);
        Check.due("they have HARM in a loss, too", all.run(1, 1, 4), 8);
        DilutedDesk last = Check.desk(HEAD + "earn 90 1 price 0;".repeat(7) + "earn 0 1 price 0;");
        Check.due("the eighth alone", last.run(0, 0, 3), 128);
        Check.due("one has HARM", last.run(0, 0, 4), 1);
        Check.due("none of none", Check.desk(HEAD).run(0, 0, 4), 0);
    }

    private static void rankNoneSuch() {
        Check.sentence("The k-th (from 0) by RANK in a RUN. NONE: none such");
        DilutedDesk desk = Check.desk(HEAD + "bond 0 1 360;bond 90 1 0;bond 0 1 180;");
        int[] due = {2, 0, -1, -1};
        for (int k = 0; k < due.length; k++) {
            Check.due("rank(0, 0, " + k + ")", desk.rank(0, 0, k), due[k]);
        }
        Check.due("rank(1, 1, 2)", desk.rank(1, 1, 2), 0);
        Check.due("rank(1, 1, 3)", desk.rank(1, 1, 3), -1);
        for (int k : new int[] {-1, 8, LEAST, MOST}) {
            Check.due("rank(1, 1, " + k + ")", desk.rank(1, 1, k), -1);
        }
        DilutedDesk full = Check.desk(HEAD + "bond 0 1 360;".repeat(8));
        Check.due("the eighth", full.rank(0, 3, 7), 7);
        Check.due("the ninth", full.rank(0, 3, 8), -1);
    }

    private static void throwsChangeNothing() {
        Check.sentence("A call that throws changes nothing");
        DilutedDesk desk = Check.desk(YEAR);
        desk.earns(0, 77);
        Check.feed(desk, "shares 5");
        String before = Check.state(desk);
        Check.noSuch("quarter", () -> desk.quarter(4, 0));
        Check.noSuch("weight", () -> desk.weight(1, 0));
        Check.noSuch("adds", () -> desk.adds(9, 0, 0, true));
        Check.noSuch("run", () -> desk.run(0, 0, 6));
        Check.noSuch("rank", () -> desk.rank(0, 4, 0));
        Check.noSuch("without", () -> desk.without(0, 0, 4));
        Check.noSuch("with", () -> desk.with(1, 0, 4));
        Check.noSuch("priced", () -> desk.priced(0, 99, 0, 4));
        Check.noSuch("profit", () -> desk.profit(0, 0, 0, 4));
        Check.noSuch("ifSplit", () -> desk.ifSplit(2, 0, 4));
        Check.same("behind them", Check.state(desk), before);
        Check.due("the tape", desk.now(6), 8);
        Check.due("the fault", desk.fault(), 0);
        Check.due("undo()", desk.undo(), 0);
        Check.due("undone", desk.quarter(0, 0), 10);
    }

    private static void atMost512Calls() {
        Check.sentence("An object is used for at most 512 calls");
        DilutedDesk desk = new DilutedDesk();
        int made = 0;
        for (int v = 1; made < 510; v++) {
            Check.due("earns call " + made, desk.earns(v % 4, v), v <= 4 ? 0 : v - 4);
            made++;
        }
        Check.due("the 511th call", desk.undo(), 9);
        Check.due("the 512th call", desk.quarter(510 % 4, 0), 506);
    }
}
