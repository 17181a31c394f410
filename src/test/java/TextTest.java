/** Promises 4 and 5: text, fault; the TOKENS, LINES and FAULTS of the terms. */
public final class TextTest {
    private static final String FOUR = "quarter profit 1 price 1;quarter profit 2 price 2;"
            + "quarter loss 3 price 3;quarter profit 4 price 4;";
    private static final String HEAD = "shares 100;" + FOUR;

    public static void main(String[] args) {
        wholeTexts();
        emptyTexts();
        blankTexts();
        tokens();
        headLines();
        eventLines();
        instrumentLines();
        oneMoreThanTold();
        theEnd();
        moreThan700();
        aFaultLeavesAll();
        aTextEndsUndoing();
        Check.finish();
    }

    private static void wholeTexts() {
        Check.good(HEAD, 5);
        Check.good(HEAD + "issue 0 1;", 6);
        Check.good(HEAD + "option 359 9999 9999;bond 0 1 99999;earn 3 4 profit 0;earn 3 4 price 99999;", 9);
        Check.good(HEAD + "bond 9 9 9;issue 5 5;option 1 1 1;split 5 9;buy 359 99;", 10);
        Check.good(" \n" + HEAD.replace(" ", "\n  \n").replace(";", " ; ") + "\n ", 5);
        Check.good("shares 00001;" + FOUR, 5);
        Check.good("shares 99999;" + FOUR, 5);
        Check.good("shares 1;quarter profit 99999 price 9999;quarter loss 99999 price 1;"
                + "quarter loss 0 price 1;quarter profit 0 price 1;", 5);
    }

    private static void emptyTexts() {
        DilutedDesk desk = Check.desk(HEAD + "issue 1 1;bond 1 1 1;");
        Check.due("text() of an empty tape", desk.text(), 0);
        asAtFirst(desk);
        Check.tell(desk, "x");
        Check.due("fault() of x", desk.fault(), 1);
        Check.due("text() of an empty tape, a fault ahead", desk.text(), 0);
        Check.due("fault() of an empty tape", desk.fault(), 0);
    }

    /** Blanks are no TOKENS: a TEXT of blanks alone has no LINE, and is an empty one. */
    private static void blankTexts() {
        Check.good(" ", 0);
        Check.good("\n", 0);
        Check.good("  \n", 0);
        Check.good(" ".repeat(699), 0);
        Check.good(" ".repeat(700), 0);
        Check.bad(" ".repeat(701), 700, 1);
        Check.bad("\n".repeat(740), 700, 1);
        Check.bad(" ".repeat(700) + HEAD.substring(0, 40), 700, 1);
        Check.bad(" ".repeat(699) + "?", 699, 1);
        Check.bad(" ".repeat(699) + "shares 1;", 700, 1);
        Check.bad(" ".repeat(699) + "shared 1;", 699, 1);
        Check.badAt(" \n|;", 1);
        Check.badAt(" |\t", 1);
        Check.badAt("|" + (char) 0, 1);
        Check.badAt("  shares|", 1);
        DilutedDesk desk = Check.desk(HEAD + "issue 1 1;bond 1 1 1;");
        desk.tells(0, 5, 5);
        Check.tell(desk, " ".repeat(701));
        Check.due("shares behind 701 blanks", desk.now(3), 106);
        Check.due("what can be undone behind 701 blanks", desk.now(5), 1);
        Check.due("text() of blanks", Check.tell(desk, " \n "), 0);
        Check.due("fault() of blanks, one ahead", desk.fault(), 0);
        asAtFirst(desk);
    }

    private static void asAtFirst(DilutedDesk desk) {
        Check.due("shares then", desk.now(3), 1);
        Check.due("events then", desk.now(0), 0);
        Check.due("instruments then", desk.now(1), 0);
        Check.due("what can be undone then", desk.now(5), 0);
        for (int quarter = 0; quarter < 4; quarter++) {
            Check.due("profit then", desk.quarter(quarter, 0), 0);
            Check.due("price then", desk.quarter(quarter, 1), 1);
        }
    }

    private static void tokens() {
        Check.badAt("shares |1a;" + FOUR, 1);
        Check.badAt("shares |a1;" + FOUR, 1);
        Check.badAt("|shares1;" + FOUR, 1);
        Check.badAt("shares |000001;" + FOUR, 1);
        Check.badAt("shares |100000;" + FOUR, 1);
        Check.badAt("shares |-1;" + FOUR, 1);
        Check.badAt("|Shares 1;" + FOUR, 1);
        Check.badAt("shares 1|,;" + FOUR, 1);
        Check.badAt("shares|\t1;" + FOUR, 1);
        Check.badAt("shares|\r1;" + FOUR, 1);
        Check.badAt("shares 1|" + (char) 0 + ";" + FOUR, 1);
        Check.badAt("shares 1|" + (char) 160 + ";" + FOUR, 1);
        Check.badAt("|shareS 1;" + FOUR, 1);
        Check.badAt("shares 1|{;" + FOUR, 1);
        Check.badAt("shares 1|`;" + FOUR, 1);
        Check.badAt("shares 1|:;" + FOUR, 1);
        Check.badAt("shares 1|/;" + FOUR, 1);
        Check.badAt(HEAD + "|issue5 5;", 1);
        Check.badAt(HEAD + "issue |5x 5;", 1);
        Check.good("shares 1;" + FOUR.replace("1;quarter", "1;\nquarter"), 5);
    }

    private static void headLines() {
        Check.badAt("|quarter profit 1 price 1;", 1);
        Check.badAt("|;" + HEAD, 1);
        Check.badAt("|7;" + HEAD, 1);
        Check.badAt("|share 1;" + FOUR, 1);
        Check.badAt("|sharesz 1;" + FOUR, 1);
        Check.badAt("|ashares 1;" + FOUR, 1);
        Check.badAt("|chares 1;" + FOUR, 1);
        Check.badAt("|sharet 1;" + FOUR, 1);
        Check.badAt("|shares9;" + FOUR, 1);
        Check.badAt("|shares0;" + FOUR, 1);
        Check.badAt("shares |0;" + FOUR, 2);
        Check.badAt("shares |00000;" + FOUR, 2);
        Check.badAt("shares |;" + FOUR, 1);
        Check.badAt("shares |x;" + FOUR, 1);
        Check.badAt("shares 1 |1;" + FOUR, 1);
        Check.badAt("shares 1;|shares 1;" + FOUR, 1);
        Check.badAt("shares 1;|issue 1 1;" + FOUR, 1);
        Check.badAt("shares 1;quarter |price 1 profit 1;", 1);
        Check.badAt("shares 1;quarter |1;", 1);
        Check.badAt("shares 1;quarter profit |price 1;", 1);
        Check.badAt("shares 1;quarter profit 1 |profit 1;", 1);
        Check.badAt("shares 1;quarter profit 1 |1;", 1);
        Check.badAt("shares 1;quarter profit 1 price |0;", 2);
        Check.badAt("shares 1;quarter profit 1 price |10000;", 2);
        Check.badAt("shares 1;quarter profit 1 price |100000;", 1);
        Check.badAt("shares 1;quarter profit 1 price 1 |1;", 1);
        Check.badAt("shares 1;quarter profit 1 price 1;|bond 1 1 1;", 1);
        Check.badAt(HEAD + "|quarter profit 1 price 1;", 1);
        Check.badAt(HEAD + "|shares 1;", 1);
        Check.badAt(HEAD + "|;", 1);
        Check.badAt(HEAD + "|5;", 1);
        Check.badAt(HEAD + "|profit;", 1);
    }

    private static void eventLines() {
        Check.badAt(HEAD + "issue |360 1;", 2);
        Check.badAt(HEAD + "issue 359 |0;", 2);
        Check.badAt(HEAD + "issue 359 |100000;", 1);
        Check.badAt(HEAD + "issue 359 99999 |1;", 1);
        Check.badAt(HEAD + "issue |;", 1);
        Check.badAt(HEAD + "issue 1 |;", 1);
        Check.badAt(HEAD + "issue |x 1;", 1);
        Check.badAt(HEAD + "buy 0 |0;", 2);
        Check.badAt(HEAD + "buy 0 |100;", 2);
        Check.good(HEAD + "buy 0 99;", 6);
        Check.badAt(HEAD + "buy 0 99;buy 0 |1;", 2);
        Check.good(HEAD + "issue 0 1;buy 0 100;", 7);
        Check.good(HEAD + "split 0 9;buy 0 899;", 7);
        Check.badAt(HEAD + "split 0 9;buy 0 |900;", 2);
        Check.badAt(HEAD + "split 0 |1;", 2);
        Check.badAt(HEAD + "split 0 |0;", 2);
        Check.badAt(HEAD + "split 0 |10;", 2);
        Check.badAt(HEAD + "issue 9 1;split |8 2;", 2);
        Check.badAt(HEAD + "issue 9 1;option 2 1 1;buy |8 1;", 2);
        Check.good(HEAD + "option 200 1 1;issue 9 1;bond 3 1 1;buy 9 1;", 9);
        Check.good("shares 99999;" + FOUR + "issue 1 2;buy 1 99999;", 7);
    }

    private static void instrumentLines() {
        Check.badAt(HEAD + "option |360 1 1;", 2);
        Check.badAt(HEAD + "option 1 |0 1;", 2);
        Check.badAt(HEAD + "option 1 |10000 1;", 2);
        Check.badAt(HEAD + "option 1 1 |0;", 2);
        Check.badAt(HEAD + "option 1 1 |10000;", 2);
        Check.badAt(HEAD + "option 1 1 |profit 1;", 1);
        Check.badAt(HEAD + "option 1 1 1 |1;", 1);
        Check.badAt(HEAD + "bond |400 1 1;", 2);
        Check.badAt(HEAD + "bond 1 |0 1;", 2);
        Check.badAt(HEAD + "bond 1 |10000 1;", 2);
        Check.good(HEAD + "bond 1 1 0;bond 1 1 99999;", 7);
        Check.badAt(HEAD + "bond 1 1 |;", 1);
        Check.badAt(HEAD + "earn |360 1 profit 1;", 2);
        Check.badAt(HEAD + "earn 1 |0 profit 1;", 2);
        Check.badAt(HEAD + "earn 1 |10000 profit 1;", 2);
        Check.badAt(HEAD + "earn 1 1 |1;", 1);
        Check.badAt(HEAD + "earn 1 1 |loss 1;", 1);
        Check.badAt(HEAD + "earn 1 1 profit |price;", 1);
        Check.badAt(HEAD + "earn 1 1 price 1 |price;", 1);
        Check.good(HEAD + "earn 1 1 profit 0;earn 1 1 profit 99999;earn 1 1 price 0;earn 1 1 price 99999;", 9);
    }

    private static void oneMoreThanTold() {
        String twenty = "issue 1 1;".repeat(20);
        Check.good(HEAD + twenty, 25);
        Check.badAt(HEAD + twenty + "|issue 1 1;", 3);
        Check.badAt(HEAD + twenty + "|buy 0 x;", 3);
        Check.badAt(HEAD + twenty + "|split 1 2;", 3);
        Check.badAt(HEAD + twenty + "bond 1 1 1;|issue", 3);
        Check.badAt(HEAD + twenty + "|issues 1 1;", 1);
        String splits = "split 1 2;".repeat(3);
        Check.good(HEAD + splits + "issue 1 1;".repeat(17), 25);
        Check.badAt(HEAD + splits + "issue 1 1;|split 1 2;", 3);
        Check.badAt(HEAD + splits + "|split;", 3);
        String eight = "bond 1 1 1;".repeat(8);
        Check.good(HEAD + eight + twenty, 33);
        Check.badAt(HEAD + eight + "|option 1 1 1;", 3);
        Check.badAt(HEAD + eight + "|bond 1 1 1;", 3);
        Check.badAt(HEAD + eight + "|earn 999 1 profit 1;", 3);
        Check.badAt(HEAD + eight + twenty + "|earn 1 1 profit 1;", 3);
    }

    private static void theEnd() {
        for (int bytes = 1; bytes < HEAD.length(); bytes++) {
            DilutedDesk desk = new DilutedDesk();
            int answer = Check.tell(desk, HEAD.substring(0, bytes));
            boolean insideAWord = Character.isLowerCase(HEAD.charAt(bytes - 1))
                    && Character.isLowerCase(HEAD.charAt(bytes));
            if (!insideAWord) {
                Check.due("text() of " + bytes + " bytes", answer, -1 - bytes);
            }
            Check.due("fault() of " + bytes + " bytes", desk.fault(), 1);
        }
        Check.badAt("shares 1;" + FOUR + "issue 1 1|", 1);
        Check.badAt("shares 1;" + FOUR + "issue 1 1  |", 1);
        Check.badAt("shares 1;  |", 1);
        // What end() cut off is not read, though it was on the tape.
        DilutedDesk desk = new DilutedDesk();
        Check.feed(desk, "shares 1x");
        desk.end(8);
        Check.due("text() of a tape cut", desk.text(), -1 - 8);
        desk.feed(0, 0, 0, 0, 0);
        desk.end(0);
        Check.due("text() of a tape cut to nothing", desk.text(), 0);
    }

    private static String filledTo(int bytes, String text) {
        return text + " ".repeat(bytes - text.length());
    }

    private static void moreThan700() {
        Check.good(filledTo(700, HEAD), 5);
        Check.bad(filledTo(701, HEAD), 700, 1);
        Check.bad(filledTo(740, HEAD), 700, 1);
        Check.bad(filledTo(700, HEAD) + "issue 1 1;", 700, 1);
        Check.bad(filledTo(699, HEAD) + "issue 1 1;", 700, 1);
        Check.bad(filledTo(699, HEAD) + "?", 699, 1);
        Check.bad(filledTo(700, HEAD) + "?", 700, 1);
        Check.bad(filledTo(699, HEAD) + "issuer 1 1;", 699, 1);
        Check.bad(filledTo(693, HEAD) + "issue 99999;", 699, 2);
        Check.bad(filledTo(693, HEAD) + "issue 359 x;", 700, 1);
        Check.bad(filledTo(693, HEAD) + "issue 999999;", 699, 1);
        Check.bad(filledTo(691, HEAD) + "issue 1 99999;", 700, 1);
        Check.good(filledTo(690, HEAD) + "issue 1 1;", 6);
        Check.bad(filledTo(690, HEAD) + "issue 1 1; ", 700, 1);
        Check.bad(filledTo(720, "shares 1;"), 700, 1);
        Check.bad("a".repeat(740), 0, 1);
        Check.bad(filledTo(699, HEAD) + "9".repeat(41), 699, 1);
        Check.bad(filledTo(692, "shares 1;quarter profit") + "99999999" + "9".repeat(40), 692, 1);
    }

    private static void aFaultLeavesAll() {
        DilutedDesk desk = Check.desk(HEAD + "issue 3 7;bond 1 2 3;");
        desk.earns(0, 55);
        String ahead = "shares 5;" + FOUR + "split 1 2;";
        Check.due("text() with a fault", Check.tell(desk, ahead + "x"), -1 - ahead.length());
        Check.due("shares stay", desk.shares(0, false), 100);
        Check.due("events stay", desk.now(0), 1);
        Check.due("the event stays", desk.event(0, 2), 7);
        Check.due("the instrument stays", desk.instrument(0, 3), 3);
        Check.due("the profit stays", desk.quarter(0, 0), 55);
        Check.due("what can be undone stays", desk.now(5), 1);
        Check.due("undo() goes on", desk.undo(), 0);
        Check.due("undone", desk.quarter(0, 0), 1);
        Check.due("fault() stays until the next text()", desk.fault(), 1);
        Check.due("a text behind it", Check.tell(desk, HEAD), 5);
        Check.due("fault() is of the latest text()", desk.fault(), 0);
        Check.due("the events are the new text's", desk.now(0), 0);
    }

    private static void aTextEndsUndoing() {
        DilutedDesk desk = Check.desk(HEAD);
        desk.earns(0, 5);
        desk.prices(0, 5);
        Check.tell(desk, HEAD);
        Check.due("what can be undone behind a text", desk.now(5), 0);
        Check.due("undo() behind a text", desk.undo(), -1);
        desk.earns(0, 5);
        desk.text();
        Check.due("what can be undone behind an empty text", desk.now(5), 0);
    }
}
