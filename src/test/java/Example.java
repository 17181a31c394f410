/** A year told as a text, looked at, changed and changed back. */
public final class Example {
    private static final String YEAR = "shares 1000;\n"
            + "quarter profit 900 price 20; quarter loss 100 price 10;\n"
            + "quarter profit 500 price 25; quarter profit 2000 price 30;\n"
            + "issue 45 200; split 180 2; buy 270 400;\n"
            + "option 0 100 15; bond 90 50 360; earn 0 40 profit 1300; earn 100 30 price 50;\n";

    public static void main(String[] args) {
        DilutedDesk desk = new DilutedDesk();
        show("lines of the text", tell(desk, YEAR));
        show("shares on day 179", desk.shares(179, false));
        show("the same, restated for the split", desk.shares(179, true));
        show("weight of the year", desk.weight(0, 3));
        show("earnings of the year", desk.run(0, 3, 0));
        show("a share, basic, in thousandths", desk.run(0, 3, 1));
        show("a share, diluted", desk.run(0, 3, 2));
        show("instruments taken in, as bits", desk.run(0, 3, 3));
        show("the one of least harm", desk.rank(0, 3, 0));
        show("diluted, were the option not there", desk.without(0, 0, 3));
        show("diluted, were quarter 3's price 90", desk.priced(3, 90, 0, 3));
        show("diluted, by a further split by 3", desk.ifSplit(3, 0, 3));
        show("profit of quarter 2 until it tells anew", desk.earns(2, -500));
        show("a share, diluted, in quarter 2", desk.run(2, 2, 2));
        show("more that can be undone behind an undo", desk.undo());
        show("a share, diluted, in quarter 2", desk.run(2, 2, 2));
        show("a text with a fault at 7", tell(desk, "shares 0;"));
        show("the fault's kind", desk.fault());
        show("the year that stays: instruments", desk.now(1));
    }

    /** Puts a text of at most 740 bytes on the tape, twenty bytes a call, and reads it. */
    private static int tell(DilutedDesk desk, String text) {
        desk.end(0);
        for (int at = 0; at < text.length(); at += 20) {
            int[] five = new int[5];
            for (int k = 0; k < 20 && at + k < text.length(); k++) {
                five[k / 4] |= text.charAt(at + k) << 24 - 8 * (k % 4);
            }
            desk.feed(five[0], five[1], five[2], five[3], five[4]);
        }
        desk.end(text.length());
        return desk.text();
    }

    private static void show(String what, long answer) {
        System.out.println(what + ": " + answer);
    }
}
