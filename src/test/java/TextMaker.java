import java.util.Random;

/** Texts for the ModelTest: most of them well, some with a number, a LINE or a byte that is not as told. */
final class TextMaker {
    private static final String SIGNS = " \n;;0159azxs-A\t" + (char) 200;

    private final Random random;
    private final boolean careful;
    private int latest = 0;

    TextMaker(Random random) {
        this.random = random;
        careful = random.nextInt(3) > 0;
    }

    String text() {
        if (random.nextInt(20) == 0) {
            return blanks();
        }
        StringBuilder text = new StringBuilder("shares ").append(scaled(1, 99999)).append(';');
        int quarters = careful || random.nextInt(10) > 0 ? 4 : random.nextInt(6);
        for (int q = 0; q < quarters; q++) {
            text.append(gap()).append("quarter ").append(random.nextInt(4) == 0 ? "loss " : "profit ");
            text.append(scaled(0, 99999)).append(" price ").append(scaled(1, 9999)).append(';');
        }
        int lines = random.nextInt(careful ? 16 : 32);
        boolean eventsAlone = random.nextInt(6) == 0;
        for (int k = 0; k < lines; k++) {
            text.append(gap()).append(eventsAlone || random.nextInt(2) == 0 ? event() : instrument()).append(';');
        }
        if (!careful && random.nextInt(3) == 0) {
            spoil(text);
        }
        if (random.nextInt(12) == 0) {
            int bytes = 690 + random.nextInt(30);
            while (text.length() < bytes) {
                text.append(random.nextInt(30) == 0 ? ";" : " ");
            }
        }
        return text.length() > 740 ? text.substring(0, 740) : text.toString();
    }

    /** None, some, or about as many as a TEXT may have; now and then with a sign among them. */
    private String blanks() {
        int bytes = random.nextBoolean() ? random.nextInt(20) : 695 + random.nextInt(10);
        StringBuilder text = new StringBuilder(" ".repeat(bytes));
        if (bytes > 0) {
            int sign = random.nextInt(4) == 0 ? random.nextInt(SIGNS.length()) : SIGNS.indexOf('\n');
            text.setCharAt(random.nextInt(bytes), SIGNS.charAt(sign));
        }
        return text.toString();
    }

    private String gap() {
        return random.nextInt(12) == 0 ? "\n " : "";
    }

    private int scaled(int least, int most) {
        if (!careful && random.nextInt(40) == 0) {
            return random.nextBoolean() ? Math.max(0, least - 1) : most + 1;
        }
        switch (random.nextInt(6)) {
            case 0: return least;
            case 1: return most;
            case 2: return least + random.nextInt(Math.min(most - least, 30) + 1);
            default: return least + random.nextInt(most - least + 1);
        }
    }

    private String event() {
        int sort = random.nextInt(5);
        int day = scaled(latest, Math.min(359, latest + 60));
        latest = Math.max(latest, Math.min(day, 359));
        if (sort < 2) {
            return "issue " + day + " " + scaled(1, 99999);
        }
        if (sort < 4) {
            return "buy " + day + " " + (1 + random.nextInt(careful ? 3 : 3000));
        }
        return "split " + day + " " + scaled(2, 9);
    }

    private String instrument() {
        int day = scaled(0, 359);
        int granted = scaled(1, 9999);
        switch (random.nextInt(4)) {
            case 0: return "option " + day + " " + granted + " " + scaled(1, 9999);
            case 1: return "bond " + day + " " + granted + " " + scaled(0, 99999);
            case 2: return "earn " + day + " " + granted + " profit " + scaled(0, 99999);
            default: return "earn " + day + " " + granted + " price " + scaled(0, 99999);
        }
    }

    private void spoil(StringBuilder text) {
        int at = random.nextInt(text.length());
        switch (random.nextInt(4)) {
            case 0: text.deleteCharAt(at); break;
            case 1: text.setLength(at); break;
            case 2: text.setCharAt(at, SIGNS.charAt(random.nextInt(SIGNS.length()))); break;
            default: text.insert(at, SIGNS.charAt(random.nextInt(SIGNS.length()))); break;
        }
    }
}
