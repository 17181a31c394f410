import java.util.NoSuchElementException;
import java.util.Random;

/** All promises: long runs of calls, right and wrong ones, each answer compared with the Model's. */
public final class ModelTest {
    private static final int RUNS = 250;
    private static final int CALLS = 512;
    private static final long THROWS = Long.MIN_VALUE;
    private static final int[] EDGES = {Integer.MIN_VALUE, -100000, -99999, -2, -1, 0, 1, 2, 9, 10, 89, 90, 359, 360,
        9999, 10000, 99999, 100000, Integer.MAX_VALUE};

    private final Random random;
    private final DilutedDesk desk = new DilutedDesk();
    private final Model model = new Model();
    /** How rare a wrong argument is: another one for each run. */
    private final int wildness;

    private ModelTest(long seed) {
        random = new Random(seed);
        wildness = 5 + random.nextInt(60);
    }

    public static void main(String[] args) {
        for (int run = 0; run < RUNS; run++) {
            new ModelTest(run).calls(run);
        }
        Check.finish();
    }

    private void calls(int run) {
        for (int made = 0; made < CALLS; ) {
            if (random.nextInt(150) == 0 || made == 0) {
                made += tellText(run);
            }
            String[] told = {""};
            int kind = random.nextInt(26);
            int[] a = arguments(kind);
            long due = answer(kind, a, told, false);
            long got = answer(kind, a, told, true);
            Check.due("run " + run + ", call " + made + ", " + told[0], got, due);
            made++;
        }
    }

    private int tellText(int run) {
        String text = new TextMaker(random).text();
        int calls = 0;
        desk.end(0);
        model.end(0);
        for (int at = 0; at < text.length(); at += 20) {
            int[] five = new int[5];
            for (int k = 0; k < 20; k++) {
                five[k / 4] |= (at + k < text.length() ? text.charAt(at + k) : 0) << 24 - k % 4 * 8;
            }
            Check.due("feed", desk.feed(five[0], five[1], five[2], five[3], five[4]), model.feed(five));
            calls++;
        }
        Check.due("end", desk.end(text.length()), model.end(text.length()));
        String told = "run " + run + ", text() of " + text;
        Check.due(told, desk.text(), model.text());
        Check.due("fault() of " + told, desk.fault(), model.fault());
        return calls + 4;
    }

    private int number(int least, int most) {
        if (random.nextInt(wildness) == 0) {
            return EDGES[random.nextInt(EDGES.length)];
        }
        if (random.nextInt(8) == 0) {
            return random.nextBoolean() ? least : most;
        }
        int span = random.nextInt(3) == 0 ? Math.min(most - least, 20) : most - least;
        return least + random.nextInt(span + 1);
    }

    private int[] arguments(int kind) {
        int from = number(0, 3);
        int to = number(Math.max(0, Math.min(from, 3)), 3);
        int i = number(0, Math.max(0, model.now(1) - 1));
        switch (kind) {
            case 3: return new int[] {number(0, 6)};
            case 4: return new int[] {number(0, 359), random.nextInt(2)};
            case 5: return new int[] {number(0, 3), number(0, 1)};
            case 6: return new int[] {number(0, Math.max(0, model.now(0) - 1)), number(0, 2)};
            case 7: return new int[] {i, number(0, 4)};
            case 8: return new int[] {from, to};
            case 9: return new int[] {i, from, to, random.nextInt(2)};
            case 10: return new int[] {from, to, number(0, 5)};
            case 11: return new int[] {from, to, number(0, 7)};
            case 12: return new int[] {i, from, to};
            case 13: return new int[] {number(0, (1 << model.now(1)) - 1), from, to};
            case 14: return new int[] {number(0, 3), number(1, 9999), from, to};
            case 15: return new int[] {number(0, 3), i, from, to};
            case 16: return new int[] {number(2, 9), from, to};
            case 17: return eventArguments();
            case 18: return instrumentArguments();
            case 19: return new int[] {number(0, 3), number(-99999, 99999)};
            case 20: return new int[] {number(0, 3), number(1, 9999)};
            case 22: return new int[] {from, to, 2};
            case 23: return new int[] {from, to, 3};
            case 24: return new int[] {from, to, 5};
            case 25: return new int[] {number(0, 40)};
            default: return new int[0];
        }
    }

    private int[] eventArguments() {
        int sort = number(0, 2);
        int latest = Math.max(0, model.now(4));
        int day = number(latest, Math.min(359, latest + 40));
        int most = sort == 2 ? 9 : sort == 1 ? Math.max(1, Math.min(99999, model.now(3))) : 99999;
        return new int[] {sort, day, number(sort == 2 ? 2 : 1, Math.max(most, 2))};
    }

    private int[] instrumentArguments() {
        int sort = number(0, 3);
        return new int[] {sort, number(0, 359), number(1, 9999), number(0, sort == 0 ? 9999 : 99999)};
    }

    private long answer(int kind, int[] a, String[] told, boolean ofDesk) {
        told[0] = "call of kind " + kind + " with " + java.util.Arrays.toString(a);
        try {
            return ofDesk ? deskAnswer(kind, a) : modelAnswer(kind, a);
        } catch (NoSuchElementException e) {
            return THROWS;
        }
    }

    private long deskAnswer(int kind, int[] a) {
        switch (kind) {
            case 0: return desk.feed(1, 2, 3, 4, 5);
            case 1: return desk.end(3) ? 1 : 0;
            case 2: return desk.fault();
            case 3: return desk.now(a[0]);
            case 4: return desk.shares(a[0], a[1] == 1);
            case 5: return desk.quarter(a[0], a[1]);
            case 6: return desk.event(a[0], a[1]);
            case 7: return desk.instrument(a[0], a[1]);
            case 8: return desk.weight(a[0], a[1]);
            case 9: return desk.adds(a[0], a[1], a[2], a[3] == 1);
            case 11: return desk.rank(a[0], a[1], a[2]);
            case 12: return desk.without(a[0], a[1], a[2]);
            case 13: return desk.with(a[0], a[1], a[2]);
            case 14: return desk.priced(a[0], a[1], a[2], a[3]);
            case 15: return desk.profit(a[0], a[1], a[2], a[3]);
            case 16: return desk.ifSplit(a[0], a[1], a[2]);
            case 17: return desk.tells(a[0], a[1], a[2]);
            case 18: return desk.grants(a[0], a[1], a[2], a[3]);
            case 19: return desk.earns(a[0], a[1]);
            case 20: return desk.prices(a[0], a[1]);
            case 21: return desk.undo();
            case 25: return a[0] == 0 ? desk.text() : desk.now(5);
            default: return desk.run(a[0], a[1], a[2]);
        }
    }

    private long modelAnswer(int kind, int[] a) {
        switch (kind) {
            case 0: return model.feed(1, 2, 3, 4, 5);
            case 1: return model.end(3) ? 1 : 0;
            case 2: return model.fault();
            case 3: return model.now(a[0]);
            case 4: return model.shares(a[0], a[1] == 1);
            case 5: return model.quarter(a[0], a[1]);
            case 6: return model.event(a[0], a[1]);
            case 7: return model.instrument(a[0], a[1]);
            case 8: return model.weight(a[0], a[1]);
            case 9: return model.adds(a[0], a[1], a[2], a[3] == 1);
            case 11: return model.rank(a[0], a[1], a[2]);
            case 12: return model.without(a[0], a[1], a[2]);
            case 13: return model.with(a[0], a[1], a[2]);
            case 14: return model.priced(a[0], a[1], a[2], a[3]);
            case 15: return model.profit(a[0], a[1], a[2], a[3]);
            case 16: return model.ifSplit(a[0], a[1], a[2]);
            case 17: return model.tells(a[0], a[1], a[2]);
            case 18: return model.grants(a[0], a[1], a[2], a[3]);
            case 19: return model.earns(a[0], a[1]);
            case 20: return model.prices(a[0], a[1]);
            case 21: return model.undo();
            case 25: return a[0] == 0 ? model.text() : model.now(5);
            default: return model.run(a[0], a[1], a[2]);
        }
    }
}
