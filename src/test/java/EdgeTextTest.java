/** The edges of a TEXT: each sentence of the terms that names one, at it and at the case next to it. */
public final class EdgeTextTest {
    private static final String FOUR = "quarter profit 1 price 1;".repeat(4);
    private static final String HEAD = "shares 100;" + FOUR;
    private static final int TOKEN = 1;
    private static final int NUMBER = 2;
    private static final int ONE_MORE = 3;

    public static void main(String[] args) {
        blanks();
        betweenThemOrNot();
        words();
        numbers();
        semicolons();
        goesOn();
        atMost700Bytes();
        linesEndWithASemicolon();
        firstLine();
        fourQuarters();
        profitOrLoss();
        quarterNumbers();
        issueNumbers();
        buyNumbers();
        fewerThanThereAre();
        splitNumbers();
        threeSplits();
        eventDays();
        eventOrder();
        twentyEvents();
        optionNumbers();
        bondNumbers();
        earnNumbers();
        earnWords();
        eightInstruments();
        numberedFrom0();
        firstAlongTheText();
        leastOfOneToken();
        atTheToken();
        theEnd();
        linesThatMustBeThere();
        moreThan700();
        readWhole();
        oneMoreAtItsWord();
        Check.finish();
    }

    /** A NUMBER between ahead and behind: the least and the most are taken, those next to them are not. */
    private static void span(String ahead, int least, int most, String behind, int lines) {
        Check.good(ahead + least + behind, lines);
        Check.good(ahead + most + behind, lines);
        if (least > 0) {
            Check.badAt(ahead + "|" + (least - 1) + behind, NUMBER);
        } else {
            // No NUMBER is below 0: its sign is no TOKEN.
            Check.badAt(ahead + "|-1" + behind, TOKEN);
        }
        // 100000 has too many digits for a NUMBER, whatever may stand there.
        Check.badAt(ahead + "|" + (most + 1) + behind, most < 99999 ? NUMBER : TOKEN);
    }

    private static String filledTo(int bytes, String text) {
        return text + " ".repeat(bytes - text.length());
    }

    private static void blanks() {
        Check.sentence("blanks (32, 10)");
        for (int blank : new int[] {32, 10}) {
            Check.good("shares" + (char) blank + "100;" + FOUR, 5);
            Check.good((char) blank + HEAD + (char) blank, 5);
        }
        for (int none : new int[] {0, 9, 11, 12, 13, 31, 33, 127, 128, 128 + 10, 128 + 32, 255}) {
            Check.badAt("shares|" + (char) none + "100;" + FOUR, TOKEN);
            Check.badAt("|" + (char) none + HEAD, TOKEN);
            Check.badAt(HEAD + "|" + (char) none, TOKEN);
        }
    }

    private static void betweenThemOrNot() {
        Check.sentence("with blanks between them or not");
        Check.good(HEAD + "issue 1 1;buy 1 1;", 7);
        Check.good(HEAD + " \n issue \n 1 \n\n 1  ;  buy\n1\n1\n;\n", 7);
        Check.badAt(HEAD + "|issue1 1;", TOKEN);
        Check.badAt(HEAD + "issue 11|;", TOKEN);
    }

    private static void words() {
        Check.sentence("WORDS: small letters");
        Check.badAt(HEAD + "|issuea 1 1;", TOKEN);
        Check.badAt(HEAD + "|issuez 1 1;", TOKEN);
        // What is next to a and z ends the WORD, and is no TOKEN itself.
        Check.badAt(HEAD + "issue|` 1 1;", TOKEN);
        Check.badAt(HEAD + "issue|{ 1 1;", TOKEN);
        Check.badAt(HEAD + "issue|A 1 1;", TOKEN);
        Check.badAt(HEAD + "issue|Z 1 1;", TOKEN);
        Check.badAt(HEAD + "|Issue 1 1;", TOKEN);
        Check.badAt(HEAD + "issue|" + (char) (128 + 'a') + " 1 1;", TOKEN);
        Check.badAt(HEAD + "|issu 1 1;", TOKEN);
        Check.badAt(HEAD + "|hssue 1 1;", TOKEN);
        Check.badAt(HEAD + "|issuf 1 1;", TOKEN);
    }

    private static void numbers() {
        Check.sentence("NUMBERS: 1 to 5 digits");
        Check.good("shares 1;" + FOUR, 5);
        Check.due("five digits", Check.good("shares 00001;" + FOUR, 5).now(3), 1);
        Check.due("five digits", Check.good("shares 12345;" + FOUR, 5).now(3), 12345);
        Check.due("0 and 9 are digits", Check.good("shares 90909;" + FOUR, 5).now(3), 90909);
        Check.badAt("shares |000001;" + FOUR, TOKEN);
        Check.badAt("shares |123456;" + FOUR, TOKEN);
        Check.badAt("shares |;" + FOUR, TOKEN);
        Check.badAt("shares 1|/;" + FOUR, TOKEN);
        Check.badAt("shares 1|:;" + FOUR, TOKEN);
        // So many digits that they would wrap round to a good one: 2^32 + 1, 2^64 + 1.
        Check.badAt("shares |4294967297;" + FOUR, TOKEN);
        Check.badAt("shares |18446744073709551617;" + FOUR, TOKEN);
        Check.badAt("shares |" + "0".repeat(500) + "1;" + FOUR, TOKEN);
    }

    private static void semicolons() {
        Check.sentence("the sign ;");
        Check.good("shares 1;" + FOUR, 5);
        Check.badAt("shares 1|:" + FOUR, TOKEN);
        Check.badAt("shares 1|<" + FOUR, TOKEN);
        Check.badAt("shares 1|" + (char) (128 + ';') + FOUR, TOKEN);
        Check.badAt("shares 1;|;" + FOUR, TOKEN);
    }

    private static void goesOn() {
        Check.sentence("A WORD, NUMBER goes on as long as small letters and digits do");
        Check.badAt("|shares1 1;" + FOUR, TOKEN);
        Check.badAt("|1shares 1;" + FOUR, TOKEN);
        Check.badAt("shares |1a;" + FOUR, TOKEN);
        Check.badAt("shares |a1;" + FOUR, TOKEN);
        Check.badAt("shares |1a1;" + FOUR, TOKEN);
        Check.badAt("shares |12345a;" + FOUR, TOKEN);
        Check.badAt("|sharesshares 1;" + FOUR, TOKEN);
        Check.good("shares 1;" + FOUR, 5);
    }

    private static void atMost700Bytes() {
        Check.sentence("A TEXT has at most 700 bytes");
        Check.good(filledTo(699, HEAD), 5);
        Check.good(filledTo(700, HEAD), 5);
        Check.bad(filledTo(701, HEAD), 700, TOKEN);
        Check.bad(filledTo(740, HEAD), 700, TOKEN);
        String line = "issue 1 1;";
        Check.good(filledTo(690, HEAD) + line, 6);
        Check.bad(filledTo(691, HEAD) + line, 700, TOKEN);
    }

    private static void linesEndWithASemicolon() {
        Check.sentence("{ LINE ; }");
        Check.good("", 0);
        Check.good(HEAD, 5);
        Check.good(HEAD + "issue 1 1;", 6);
        Check.badAt(HEAD + "issue 1 1|", TOKEN);
        Check.badAt(HEAD + "issue 1 1 |issue 1 1;", TOKEN);
        Check.badAt(HEAD + "|;", TOKEN);
        Check.badAt(HEAD + "issue 1 1;|;", TOKEN);
        Check.badAt("|;", TOKEN);
        for (int at = HEAD.indexOf(';'); at >= 0; at = HEAD.indexOf(';', at + 1)) {
            Check.badAt(HEAD.substring(0, at) + " |" + HEAD.substring(at + 1), TOKEN);
        }
    }

    private static void firstLine() {
        Check.sentence("The first LINE: 'shares' N (1 to 99999)");
        span("shares ", 1, 99999, ";" + FOUR, 5);
        Check.due("the least", Check.good("shares 1;" + FOUR, 5).now(3), 1);
        Check.due("the most", Check.good("shares 99999;" + FOUR, 5).now(3), 99999);
        Check.badAt("|" + FOUR, TOKEN);
        Check.badAt("|issue 1 1;" + HEAD, TOKEN);
        Check.badAt("shares 1;|shares 1;" + FOUR, TOKEN);
        Check.badAt(HEAD + "|shares 1;", TOKEN);
    }

    private static void fourQuarters() {
        Check.sentence("Then four: 'quarter'");
        String one = "quarter profit 1 price 1;";
        Check.good("shares 1;" + one.repeat(4), 5);
        Check.badAt("shares 1;" + one.repeat(3) + "|", TOKEN);
        Check.badAt("shares 1;" + one.repeat(3) + "|issue 1 1;", TOKEN);
        Check.badAt("shares 1;" + one.repeat(3) + "|bond 1 1 1;", TOKEN);
        Check.badAt("shares 1;" + one.repeat(4) + "|" + one, TOKEN);
        Check.badAt("shares 1;" + one.repeat(4) + "issue 1 1;|" + one, TOKEN);
    }

    private static void profitOrLoss() {
        Check.sentence("( 'profit' | 'loss' )");
        String behind = "quarter profit 1 price 1;".repeat(3);
        Check.due("a profit", Check.good("shares 1;quarter profit 7 price 1;" + behind, 5).quarter(0, 0), 7);
        Check.due("a loss", Check.good("shares 1;quarter loss 7 price 1;" + behind, 5).quarter(0, 0), -7);
        Check.badAt("shares 1;quarter |price 7 price 1;" + behind, TOKEN);
        Check.badAt("shares 1;quarter |7 price 1;" + behind, TOKEN);
        Check.badAt("shares 1;quarter profit |loss 7 price 1;" + behind, TOKEN);
    }

    private static void quarterNumbers() {
        Check.sentence("V 'price' P (0 to 99999, 1 to 9999)");
        for (int q = 0; q < 4; q++) {
            String ahead = "shares 1;" + "quarter profit 1 price 1;".repeat(q);
            String behind = "quarter profit 1 price 1;".repeat(3 - q);
            span(ahead + "quarter profit ", 0, 99999, " price 1;" + behind, 5);
            span(ahead + "quarter loss ", 0, 99999, " price 1;" + behind, 5);
            span(ahead + "quarter profit 1 price ", 1, 9999, ";" + behind, 5);
            DilutedDesk most = Check.good(ahead + "quarter profit 99999 price 9999;" + behind, 5);
            Check.due("the most profit", most.quarter(q, 0), 99999);
            Check.due("the most P", most.quarter(q, 1), 9999);
            DilutedDesk least = Check.good(ahead + "quarter loss 99999 price 1;" + behind, 5);
            Check.due("the most loss", least.quarter(q, 0), -99999);
            Check.due("the least P", least.quarter(q, 1), 1);
            Check.due("a loss of 0", Check.good(ahead + "quarter loss 0 price 1;" + behind, 5).quarter(q, 0), 0);
        }
    }

    private static void issueNumbers() {
        Check.sentence("'issue' DAY N (1 to 99999)");
        span(HEAD + "issue 1 ", 1, 99999, ";", 6);
        Check.due("one more", Check.good(HEAD + "issue 1 1;", 6).now(3), 101);
        Check.due("the most more", Check.good(HEAD + "issue 1 99999;", 6).now(3), 100099);
    }

    private static void buyNumbers() {
        Check.sentence("'buy' DAY N (1 to 99999");
        span(HEAD + "issue 1 99999;buy 1 ", 1, 99999, ";", 7);
        Check.due("one less", Check.good(HEAD + "buy 1 1;", 6).now(3), 99);
        Check.due("the most less", Check.good(HEAD + "issue 1 99999;buy 1 99999;", 7).now(3), 100);
    }

    private static void fewerThanThereAre() {
        Check.sentence("fewer than there are)");
        span(HEAD + "buy 1 ", 1, 99, ";", 6);
        Check.due("all but one", Check.good(HEAD + "buy 1 99;", 6).now(3), 1);
        span(HEAD + "issue 1 5;buy 1 ", 1, 104, ";", 7);
        span(HEAD + "buy 0 5;buy 1 ", 1, 94, ";", 7);
        span(HEAD + "split 0 3;buy 1 ", 1, 299, ";", 7);
        // What comes behind does not count: neither a later split nor a later issue.
        span(HEAD + "buy 1 ", 1, 99, ";split 1 3;issue 1 50;", 8);
        Check.badAt("shares 1;" + FOUR + "buy 1 |1;", NUMBER);
        Check.good("shares 2;" + FOUR + "buy 1 1;", 6);
        span("shares 99999;" + FOUR + "buy 1 ", 1, 99998, ";", 6);
    }

    private static void splitNumbers() {
        Check.sentence("'split' DAY A (2 to 9");
        span(HEAD + "split 1 ", 2, 9, ";", 6);
        Check.badAt(HEAD + "split 1 |0;", NUMBER);
        Check.due("twice as many", Check.good(HEAD + "split 1 2;", 6).now(3), 200);
        Check.due("nine times as many", Check.good(HEAD + "split 1 9;", 6).now(3), 900);
    }

    private static void threeSplits() {
        Check.sentence("'split' DAY A (2 to 9; 3 at most)");
        Check.due("splits", Check.good(HEAD + "split 1 2;".repeat(3), 8).now(2), 3);
        Check.badAt(HEAD + "split 1 2;".repeat(3) + "|split 1 2;", ONE_MORE);
        Check.good(HEAD + "split 1 2;".repeat(3) + "issue 1 1;", 9);
        Check.badAt(HEAD + "split 1 2;split 2 2;bond 1 1 1;split 3 2;issue 9 9;|split 9 2;", ONE_MORE);
    }

    private static void eventDays() {
        Check.sentence("DAY 0 to 359");
        for (String word : new String[] {"issue", "buy", "split"}) {
            span(HEAD + word + " ", 0, 359, " 2;", 6);
            Check.due("the first DAY", Check.good(HEAD + word + " 0 2;", 6).event(0, 1), 0);
            Check.due("the last DAY", Check.good(HEAD + word + " 359 2;", 6).event(0, 1), 359);
        }
        for (String word : new String[] {"option", "bond"}) {
            span(HEAD + word + " ", 0, 359, " 2 2;", 6);
        }
        span(HEAD + "earn ", 0, 359, " 2 profit 2;", 6);
        span(HEAD + "earn ", 0, 359, " 2 price 2;", 6);
        Check.due("the first DAY", Check.good(HEAD + "bond 0 2 2;", 6).instrument(0, 1), 0);
        Check.due("the last DAY", Check.good(HEAD + "bond 359 2 2;", 6).instrument(0, 1), 359);
    }

    private static void eventOrder() {
        Check.sentence("no EVENT's earlier than that of the one ahead");
        for (String word : new String[] {"issue", "buy", "split"}) {
            span(HEAD + "issue 100 5;" + word + " ", 100, 359, " 2;", 7);
            span(HEAD + "split 100 5;" + word + " ", 100, 359, " 2;", 7);
            span(HEAD + "buy 359 5;" + word + " ", 359, 359, " 2;", 7);
            // An INSTRUMENT between is no EVENT, whatever its DAY.
            span(HEAD + "issue 100 5;bond 200 1 1;" + word + " ", 100, 359, " 2;", 8);
        }
        // It is the one ahead that counts, not the first.
        span(HEAD + "issue 5 1;issue 7 1;issue ", 7, 359, " 1;", 8);
        span(HEAD + "issue 100 5;bond ", 0, 359, " 1 1;", 7);
    }

    private static void twentyEvents() {
        Check.sentence("20 EVENTS at most");
        String twenty = "issue 1 1;".repeat(20);
        Check.due("EVENTS", Check.good(HEAD + twenty, 25).now(0), 20);
        for (String word : new String[] {"issue", "buy", "split"}) {
            Check.good(HEAD + "issue 1 1;".repeat(19) + word + " 1 2;", 25);
            Check.badAt(HEAD + twenty + "|" + word + " 1 2;", ONE_MORE);
        }
        Check.good(HEAD + twenty + "bond 1 1 1;", 26);
        Check.good(HEAD + twenty + "bond 1 1 1;".repeat(8), 33);
        Check.badAt(HEAD + twenty + "bond 1 1 1;".repeat(8) + "|issue 1 1;", ONE_MORE);
    }

    private static void optionNumbers() {
        Check.sentence("'option' DAY N K (N 1 to 9999; K 1 to 9999");
        span(HEAD + "option 1 ", 1, 9999, " 1;", 6);
        span(HEAD + "option 1 1 ", 1, 9999, ";", 6);
        DilutedDesk most = Check.good(HEAD + "option 1 9999 9999;", 6);
        Check.due("the most N", most.instrument(0, 2), 9999);
        Check.due("the most K", most.instrument(0, 3), 9999);
        Check.badAt(HEAD + "option 1 1 |profit 1;", TOKEN);
    }

    private static void bondNumbers() {
        Check.sentence("'bond' DAY N I (N 1 to 9999; I, T 0 to 99999");
        span(HEAD + "bond 1 ", 1, 9999, " 1;", 6);
        span(HEAD + "bond 1 1 ", 0, 99999, ";", 6);
        DilutedDesk most = Check.good(HEAD + "bond 1 9999 99999;", 6);
        Check.due("the most N", most.instrument(0, 2), 9999);
        Check.due("the most I", most.instrument(0, 3), 99999);
        Check.due("the least I", Check.good(HEAD + "bond 1 1 0;", 6).instrument(0, 3), 0);
    }

    private static void earnNumbers() {
        Check.sentence("'earn' DAY N ( 'profit' | 'price' ) T (N 1 to 9999; I, T 0 to 99999");
        for (String word : new String[] {"profit", "price"}) {
            span(HEAD + "earn 1 ", 1, 9999, " " + word + " 1;", 6);
            span(HEAD + "earn 1 1 " + word + " ", 0, 99999, ";", 6);
            DilutedDesk most = Check.good(HEAD + "earn 1 9999 " + word + " 99999;", 6);
            Check.due("the most N", most.instrument(0, 2), 9999);
            Check.due("the most T", most.instrument(0, 3), 99999);
        }
    }

    private static void earnWords() {
        Check.sentence("( 'profit' | 'price' )");
        Check.due("by profit", Check.good(HEAD + "earn 1 1 profit 1;", 6).instrument(0, 0), 2);
        Check.due("by price", Check.good(HEAD + "earn 1 1 price 1;", 6).instrument(0, 0), 3);
        Check.badAt(HEAD + "earn 1 1 |loss 1;", TOKEN);
        Check.badAt(HEAD + "earn 1 1 |1;", TOKEN);
        Check.badAt(HEAD + "earn 1 1 |profits 1;", TOKEN);
    }

    private static void eightInstruments() {
        Check.sentence("8 at most, numbered from 0");
        String[] ways = {"option 1 1 1;", "bond 1 1 1;", "earn 1 1 profit 1;", "earn 1 1 price 1;"};
        for (String one : ways) {
            Check.due("INSTRUMENTS", Check.good(HEAD + one.repeat(8), 13).now(1), 8);
            for (String other : ways) {
                Check.good(HEAD + one.repeat(7) + other, 13);
                Check.badAt(HEAD + one.repeat(8) + "|" + other, ONE_MORE);
            }
        }
        Check.good(HEAD + "bond 1 1 1;".repeat(8) + "issue 1 1;", 14);
    }

    private static void numberedFrom0() {
        Check.sentence("8 at most, numbered from 0");
        DilutedDesk desk = Check.good(HEAD + "bond 1 1 0;bond 1 1 1;issue 1 1;bond 1 1 2;bond 1 1 3;bond 1 1 4;"
                + "bond 1 1 5;bond 1 1 6;bond 1 1 7;", 14);
        for (int i = 0; i < 8; i++) {
            Check.due("I of number " + i, desk.instrument(i, 3), i);
        }
        Check.due("number -1", desk.instrument(-1, 3), -1);
        Check.due("number 8", desk.instrument(8, 3), -1);
    }

    private static void firstAlongTheText() {
        Check.sentence("FAULTS, the first along the text");
        // The kind of a later one is less or more: the place alone counts.
        Check.badAt("shares |0;" + FOUR + "?", NUMBER);
        Check.badAt("shares 1|?;" + FOUR + "issue 360 1;", TOKEN);
        Check.badAt(HEAD + "issue |360 0;", NUMBER);
        Check.badAt(HEAD + "issue 359 |0;split 0 2;", NUMBER);
        Check.badAt(HEAD + "split 1 2;".repeat(3) + "|split 360 0 ?", ONE_MORE);
        Check.badAt(HEAD + "bond 1 |0 1;" + "bond 1 1 1;".repeat(8), NUMBER);
        Check.badAt(HEAD + "bond 1 1 1;".repeat(8) + "|bond ? 1 1;", ONE_MORE);
    }

    private static void leastOfOneToken() {
        Check.sentence("of one TOKEN the least");
        // A NUMBER that can't come, and would not be as told either.
        Check.badAt("shares 1 |0;" + FOUR, TOKEN);
        Check.badAt(HEAD + "issue 1 1 |0;", TOKEN);
        Check.badAt(HEAD + "|360;", TOKEN);
        // Digits that are no NUMBER, and would be too much.
        Check.badAt(HEAD + "issue 1 |100000;", TOKEN);
        Check.badAt(HEAD + "buy 1 |99999;", NUMBER);
        // A WORD that can't come there, and would be one more.
        Check.badAt(HEAD + "bond 1 1 1;".repeat(8) + "issue |bond 1 1;", TOKEN);
        Check.badAt(HEAD + "issue 1 1;".repeat(20) + "bond 1 1 1 |issue 1 1;", TOKEN);
    }

    private static void atTheToken() {
        Check.sentence("(at it");
        Check.bad("?", 0, TOKEN);
        Check.bad(" ?", 1, TOKEN);
        Check.bad("\n\n  shares 1  x", 14, TOKEN);
        Check.badAt("shares    |0   ;", NUMBER);
        Check.badAt("shares 1;quarter profit 1 price \n |10000\n;", NUMBER);
    }

    private static void theEnd() {
        Check.sentence("the end: how many bytes there are");
        Check.bad("shares", 6, TOKEN);
        Check.bad("shares ", 7, TOKEN);
        Check.bad("shares 1", 8, TOKEN);
        Check.bad("shares 1\n\n ", 11, TOKEN);
        Check.bad(filledTo(699, "shares 1"), 699, TOKEN);
        Check.bad(filledTo(700, "shares 1"), 700, TOKEN);
        Check.bad(filledTo(701, "shares 1"), 700, TOKEN);
        // A WORD or NUMBER that is not as told has its own place, though the end is behind it.
        Check.badAt("|share", TOKEN);
        Check.badAt("shares |0", NUMBER);
        for (String line : new String[] {"issue 1 2;", "buy 1 2;", "split 1 2;", "option 1 2 3;", "bond 1 2 3;",
            "earn 1 2 profit 3;", "earn 1 2 price 3;"}) {
            for (int at = line.indexOf(' '); at >= 0; at = line.indexOf(' ', at + 1)) {
                Check.bad(HEAD + line.substring(0, at), HEAD.length() + at, TOKEN);
                Check.bad(HEAD + line.substring(0, at + 1), HEAD.length() + at + 1, TOKEN);
            }
            Check.bad(HEAD + line.substring(0, line.length() - 1), HEAD.length() + line.length() - 1, TOKEN);
            Check.good(HEAD + line, 6);
        }
    }

    private static void linesThatMustBeThere() {
        Check.sentence("the end: how many bytes there are, also if LINES that must be there are not");
        String one = "quarter profit 1 price 1;";
        for (int quarters = 0; quarters < 4; quarters++) {
            String text = "shares 1;" + one.repeat(quarters);
            Check.bad(text, text.length(), TOKEN);
            Check.bad(text + " \n", text.length() + 2, TOKEN);
            Check.bad(filledTo(700, text), 700, TOKEN);
            Check.bad(filledTo(701, text), 700, TOKEN);
        }
        Check.good("shares 1;" + one.repeat(4), 5);
    }

    private static void moreThan700() {
        Check.sentence("700, if there are more and no FAULT is ahead");
        Check.good(filledTo(700, HEAD), 5);
        Check.bad(filledTo(701, HEAD), 700, TOKEN);
        Check.bad(filledTo(700, HEAD) + ";", 700, TOKEN);
        Check.bad(filledTo(700, HEAD) + "?", 700, TOKEN);
        Check.bad(filledTo(740, HEAD), 700, TOKEN);
        Check.bad(filledTo(699, HEAD) + "?" + " ".repeat(40), 699, TOKEN);
        Check.bad(filledTo(699, HEAD) + ";" + " ".repeat(40), 699, TOKEN);
        Check.bad(filledTo(740, "shares 0"), 7, NUMBER);
        Check.bad(filledTo(740, HEAD + "split 1 2;".repeat(3) + "split"), HEAD.length() + 30, ONE_MORE);
        // The same with blanks alone.
        Check.good(" ".repeat(700), 0);
        Check.bad(" ".repeat(701), 700, TOKEN);
    }

    private static void readWhole() {
        Check.sentence("TOKENS that begin ahead of it are read whole");
        // The WORD from 699 on is a good one or not by what is behind 700; from 700 on nothing is read.
        Check.bad(filledTo(699, HEAD) + "issue 1 1;", 700, TOKEN);
        Check.bad(filledTo(699, HEAD) + "issues 1 1;", 699, TOKEN);
        Check.bad(filledTo(699, HEAD) + "issue1 1;", 699, TOKEN);
        Check.bad(filledTo(700, HEAD) + "issues 1 1;", 700, TOKEN);
        Check.bad(filledTo(696, HEAD) + "issue 1 1;", 700, TOKEN);
        Check.bad(filledTo(695, HEAD) + "issue?1;", 700, TOKEN);
        Check.bad(filledTo(694, HEAD) + "issue?1;", 699, TOKEN);
        // NUMBERS: 35 is a DAY, 359 is one, 360 is none, 000000 is no NUMBER.
        Check.bad(filledTo(693, HEAD) + "issue 359 1;", 700, TOKEN);
        Check.bad(filledTo(693, HEAD) + "issue 360 1;", 699, NUMBER);
        Check.bad(filledTo(693, HEAD) + "issue 00000 1;", 700, TOKEN);
        Check.bad(filledTo(693, HEAD) + "issue 000000 1;", 699, TOKEN);
        Check.bad(filledTo(693, HEAD) + "issue 1x 1;", 699, TOKEN);
        Check.bad(filledTo(694, HEAD) + "issue 360 1;", 700, TOKEN);
        Check.bad(filledTo(699, HEAD + "split 1 2;".repeat(3)) + "split 1 2;", 699, ONE_MORE);
        Check.bad(filledTo(700, HEAD + "split 1 2;".repeat(3)) + "split 1 2;", 700, TOKEN);
        // To the very last byte of the tape.
        Check.bad(filledTo(699, HEAD) + "i".repeat(41), 699, TOKEN);
        Check.bad(filledTo(735, HEAD) + "issue", 700, TOKEN);
    }

    private static void oneMoreAtItsWord() {
        Check.sentence("3 one more of a sort than told (at its WORD)");
        Check.badAt(HEAD + "bond 1 1 1;".repeat(8) + " \n |bond", ONE_MORE);
        Check.badAt(HEAD + "issue 1 1;".repeat(20) + "  |buy 400 0;", ONE_MORE);
        Check.badAt(HEAD + "split 1 2;".repeat(3) + "  |split 400 0;", ONE_MORE);
        Check.badAt(HEAD + "split 1 2;".repeat(3) + "|splits 1 2;", TOKEN);
        Check.badAt(HEAD + "split 1 2;".repeat(3) + "issue 1 |0;", NUMBER);
    }
}
