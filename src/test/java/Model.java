import java.math.BigInteger;
import java.util.ArrayList;
import java.util.Arrays;
import java.util.List;
import java.util.NoSuchElementException;
import java.util.regex.Matcher;
import java.util.regex.Pattern;

/**
 * The document once more, by other means, to compare with: each DAY by itself, fractions as they are,
 * what would be on a copy, and a copy of all for each undo.
 */
final class Model {
    private static final int NO_AMOUNT = -1000000000;
    private static final Pattern TOKEN = Pattern.compile("[a-z0-9]+|;|[^ \n]");

    private int shares = 1;
    private int[] profits = {0, 0, 0, 0};
    private int[] prices = {1, 1, 1, 1};
    private List<int[]> events = new ArrayList<>();
    private List<int[]> instruments = new ArrayList<>();
    private List<Model> kept = new ArrayList<>();
    private StringBuilder tape = new StringBuilder();
    private int faultKind = 0;
    private int linesRead = 0;

    private static final class Fault extends RuntimeException {
        private static final long serialVersionUID = 1;
        final int place;
        final int kind;

        Fault(int place, int kind) {
            this.place = place;
            this.kind = kind;
        }
    }

    int feed(int... numbers) {
        if (tape.length() + 20 > 740) {
            return -1;
        }
        for (int n : numbers) {
            tape.append((char) (n >>> 24)).append((char) (n >>> 16 & 255));
            tape.append((char) (n >>> 8 & 255)).append((char) (n & 255));
        }
        return tape.length();
    }

    boolean end(int n) {
        boolean can = n >= 0 && n <= tape.length();
        if (can) {
            tape.setLength(n);
        }
        return can;
    }

    int text() {
        String bytes = tape.toString();
        tape.setLength(0);
        faultKind = 0;
        Model told = new Model();
        try {
            told.readAll(bytes);
        } catch (Fault fault) {
            faultKind = fault.kind;
            return -1 - fault.place;
        }
        takeFrom(told);
        kept.clear();
        return told.linesRead;
    }

    private void readAll(String bytes) {
        List<String> tokens = new ArrayList<>();
        List<Integer> places = new ArrayList<>();
        Matcher matcher = TOKEN.matcher(bytes);
        while (matcher.find() && matcher.start() < 700) {
            tokens.add(matcher.group());
            places.add(matcher.start());
        }
        tokens.add("");
        places.add(Math.min(700, bytes.length()));
        int at = 0;
        // Without any TOKEN there is no LINE that must be there.
        while (at < tokens.size() - 1 || tokens.size() > 1 && linesRead < 5) {
            int next = readLine(tokens, places, at);
            at = next;
            linesRead++;
        }
        if (bytes.length() > 700) {
            throw new Fault(700, 1);
        }
    }

    private int readLine(List<String> tokens, List<Integer> places, int first) {
        int at = first;
        String form = form(tokens.get(at), places.get(at));
        List<Integer> values = new ArrayList<>();
        int[] choice = {0};
        for (String part : form.split(" ")) {
            String token = tokens.get(at);
            int place = places.get(at);
            if (part.equals("#")) {
                if (!token.matches("[0-9]{1,5}")) {
                    throw new Fault(place, 1);
                }
                values.add(Integer.parseInt(token));
                if (!fits(tokens.get(first), values, choice[0])) {
                    throw new Fault(place, 2);
                }
            } else {
                List<String> ways = Arrays.asList(part.split("/"));
                if (!ways.contains(token)) {
                    throw new Fault(place, 1);
                }
                if (ways.size() > 1) {
                    choice[0] = ways.indexOf(token);
                }
            }
            at++;
        }
        put(tokens.get(first), values, choice[0]);
        return at;
    }

    private String form(String word, int place) {
        if (linesRead == 0) {
            return "shares # ;";
        }
        if (linesRead < 5) {
            return "quarter profit/loss # price # ;";
        }
        if (word.matches("issue|buy|split")) {
            if (events.size() == 20 || word.equals("split") && splits() == 3) {
                throw new Fault(place, 3);
            }
            return word + " # # ;";
        }
        if (word.matches("option|bond|earn")) {
            if (instruments.size() == 8) {
                throw new Fault(place, 3);
            }
            return word.equals("earn") ? "earn # # profit/price # ;" : word + " # # # ;";
        }
        throw new Fault(place, 1);
    }

    private boolean fits(String word, List<Integer> values, int choice) {
        int last = values.get(values.size() - 1);
        int nth = values.size();
        switch (word) {
            case "shares":
                return last >= 1;
            case "quarter":
                return nth == 1 || last >= 1 && last <= 9999;
            case "issue":
            case "buy":
            case "split":
                int sort = "issue buy split".indexOf(word) / 5;
                return nth == 1 ? eventDayFits(last) : eventNumberFits(sort, last);
            default:
                if (nth == 1) {
                    return last <= 359;
                }
                return nth == 2 ? last >= 1 && last <= 9999 : !word.equals("option") || last >= 1 && last <= 9999;
        }
    }

    private void put(String word, List<Integer> values, int choice) {
        switch (word) {
            case "shares":
                shares = values.get(0);
                break;
            case "quarter":
                profits[linesRead - 1] = choice == 1 ? -values.get(0) : values.get(0);
                prices[linesRead - 1] = values.get(1);
                break;
            case "issue":
            case "buy":
            case "split":
                events.add(new int[] {"issue buy split".indexOf(word) / 5, values.get(0), values.get(1)});
                break;
            default:
                int sort = word.equals("option") ? 0 : word.equals("bond") ? 1 : 2 + choice;
                instruments.add(new int[] {sort, values.get(0), values.get(1), values.get(2)});
                break;
        }
    }

    private boolean eventDayFits(int day) {
        return day >= 0 && day <= 359 && (events.isEmpty() || day >= events.get(events.size() - 1)[1]);
    }

    private boolean eventNumberFits(int sort, int n) {
        if (sort == 2) {
            return n >= 2 && n <= 9;
        }
        return n >= 1 && n <= 99999 && (sort == 0 || n < shares(359, false));
    }

    int fault() {
        return faultKind;
    }

    int now(int what) {
        switch (what) {
            case 0: return events.size();
            case 1: return instruments.size();
            case 2: return splits();
            case 3: return shares(359, false);
            case 4: return events.isEmpty() ? -1 : events.get(events.size() - 1)[1];
            case 5: return kept.size();
            case 6: return tape.length();
            default: return -1;
        }
    }

    private int splits() {
        return (int) events.stream().filter(e -> e[0] == 2).count();
    }

    int shares(int day, boolean restated) {
        if (day < 0 || day > 359) {
            return -1;
        }
        long count = shares;
        for (int[] e : events) {
            if (e[1] <= day) {
                count = e[0] == 0 ? count + e[2] : e[0] == 1 ? count - e[2] : count * e[2];
            } else if (restated && e[0] == 2) {
                count *= e[2];
            }
        }
        return Math.toIntExact(count);
    }

    int quarter(int quarter, int what) {
        if (quarter < 0 || quarter > 3 || what < 0 || what > 1) {
            throw new NoSuchElementException();
        }
        return (what == 0 ? profits : prices)[quarter];
    }

    int event(int k, int what) {
        return k < 0 || k >= events.size() || what < 0 || what > 2 ? -1 : events.get(k)[what];
    }

    int instrument(int i, int what) {
        if (i < 0 || i >= instruments.size() || what < 0 || what > 4) {
            return -1;
        }
        return what == 4 ? old(i) : instruments.get(i)[what];
    }

    private int scale(int i, int day) {
        int scale = 1;
        for (int[] e : events) {
            if (e[0] == 2 && e[1] > instruments.get(i)[1] && e[1] <= day) {
                scale *= e[2];
            }
        }
        return scale;
    }

    private int old(int i) {
        return instruments.get(i)[2] * scale(i, 359);
    }

    private static void run(int from, int to) {
        if (from < 0 || to > 3 || from > to) {
            throw new NoSuchElementException();
        }
    }

    long weight(int from, int to) {
        run(from, to);
        long weight = 0;
        for (int day = from * 90; day < to * 90 + 90; day++) {
            weight += shares(day, true);
        }
        return weight;
    }

    private int earnings(int from, int to) {
        int sum = 0;
        for (int q = from; q <= to; q++) {
            sum += profits[q];
        }
        return sum;
    }

    private static BigInteger big(long n) {
        return BigInteger.valueOf(n);
    }

    long adds(int i, int from, int to, boolean toEarnings) {
        run(from, to);
        if (i < 0 || i >= instruments.size()) {
            throw new NoSuchElementException();
        }
        int[] it = instruments.get(i);
        int days = 0;
        long byQuarters = 0;
        for (int q = from; q <= to; q++) {
            int here = 0;
            for (int day = q * 90; day < q * 90 + 90; day++) {
                here += day >= it[1] ? 1 : 0;
            }
            days += here;
            long price = (long) prices[q] * scale(i, q * 90 + 89);
            if (price > it[3]) {
                byQuarters += big(old(i)).multiply(big(here)).multiply(big(price - it[3])).divide(big(price)).longValueExact();
            }
        }
        if (toEarnings) {
            return it[0] == 1 ? (long) it[3] * days / 360 : 0;
        }
        long all = (long) old(i) * days;
        switch (it[0]) {
            case 0: return byQuarters;
            case 1: return all;
            case 2: return earnings(0, to) >= it[3] ? all : 0;
            default: return (long) prices[to] * scale(i, to * 90 + 89) >= it[3] ? all : 0;
        }
    }

    private List<Integer> ranked(int from, int to) {
        List<Integer> ranked = new ArrayList<>();
        for (int i = 0; i < instruments.size(); i++) {
            if (adds(i, from, to, false) > 0) {
                ranked.add(i);
            }
        }
        // A list's sort is stable: like ones stay in order.
        ranked.sort((a, b) -> big(adds(a, from, to, true)).multiply(big(adds(b, from, to, false)))
                .compareTo(big(adds(b, from, to, true)).multiply(big(adds(a, from, to, false)))));
        return ranked;
    }

    /** SET and the one that ended it. */
    private int[] taken(int from, int to) {
        BigInteger earnings = big(earnings(from, to));
        BigInteger weight = big(weight(from, to));
        int set = 0;
        for (int i : ranked(from, to)) {
            BigInteger e = earnings.add(big(adds(i, from, to, true)));
            BigInteger w = weight.add(big(adds(i, from, to, false)));
            if (e.multiply(weight).compareTo(earnings.multiply(w)) >= 0) {
                return new int[] {set, i};
            }
            earnings = e;
            weight = w;
            set |= 1 << i;
        }
        return new int[] {set, -1};
    }

    private int aShare(int set, int from, int to) {
        BigInteger earnings = big(earnings(from, to));
        BigInteger weight = big(weight(from, to));
        for (int i = 0; i < instruments.size(); i++) {
            if ((set & 1 << i) != 0) {
                earnings = earnings.add(big(adds(i, from, to, true)));
                weight = weight.add(big(adds(i, from, to, false)));
            }
        }
        BigInteger[] parts = earnings.multiply(big(90000L * (to - from + 1))).divideAndRemainder(weight);
        return (parts[1].signum() < 0 ? parts[0].subtract(BigInteger.ONE) : parts[0]).intValueExact();
    }

    private int diluted(int from, int to) {
        return aShare(taken(from, to)[0], from, to);
    }

    int run(int from, int to, int what) {
        run(from, to);
        switch (what) {
            case 0: return earnings(from, to);
            case 1: return aShare(0, from, to);
            case 2: return diluted(from, to);
            case 3: return taken(from, to)[0];
            case 4: return ranked(from, to).size();
            case 5: return taken(from, to)[1];
            default: throw new NoSuchElementException();
        }
    }

    int rank(int from, int to, int k) {
        run(from, to);
        List<Integer> ranked = ranked(from, to);
        return k < 0 || k >= ranked.size() ? -1 : ranked.get(k);
    }

    int without(int i, int from, int to) {
        run(from, to);
        if (i < 0 || i >= instruments.size()) {
            return NO_AMOUNT;
        }
        Model other = copy();
        other.instruments.remove(i);
        return other.diluted(from, to);
    }

    int with(int set, int from, int to) {
        run(from, to);
        return (set & -1 << instruments.size()) != 0 ? NO_AMOUNT : aShare(set, from, to);
    }

    int priced(int quarter, int v, int from, int to) {
        run(from, to);
        Model other = copy();
        return other.prices(quarter, v) < 0 ? NO_AMOUNT : other.diluted(from, to);
    }

    int profit(int quarter, int i, int from, int to) {
        run(from, to);
        if (quarter < 0 || quarter > 3 || i < 0 || i >= instruments.size()) {
            return -1;
        }
        Model other = copy();
        for (int v = 0; v < 100000; v += 100) {
            other.profits[quarter] = v;
            if ((other.taken(from, to)[0] & 1 << i) != 0) {
                return v;
            }
        }
        return -2;
    }

    int ifSplit(int a, int from, int to) {
        run(from, to);
        Model other = copy();
        return other.tells(2, Math.max(0, now(4)), a) < 0 ? NO_AMOUNT : other.diluted(from, to);
    }

    int tells(int sort, int day, int n) {
        if (sort < 0 || sort > 2 || !eventDayFits(day) || !eventNumberFits(sort, n)) {
            return -1;
        }
        if (events.size() == 20 || sort == 2 && splits() == 3) {
            return -2;
        }
        keep();
        events.add(new int[] {sort, day, n});
        return events.size();
    }

    int grants(int sort, int day, int n, int k) {
        boolean termFits = sort == 0 ? k >= 1 && k <= 9999 : k >= 0 && k <= 99999;
        if (sort < 0 || sort > 3 || day < 0 || day > 359 || n < 1 || n > 9999 || !termFits) {
            return -1;
        }
        if (instruments.size() == 8) {
            return -2;
        }
        keep();
        instruments.add(new int[] {sort, day, n, k});
        return instruments.size() - 1;
    }

    int earns(int quarter, int v) {
        if (quarter < 0 || quarter > 3 || v < -99999 || v > 99999) {
            return NO_AMOUNT;
        }
        keep();
        int was = profits[quarter];
        profits[quarter] = v;
        return was;
    }

    int prices(int quarter, int v) {
        if (quarter < 0 || quarter > 3 || v < 1 || v > 9999) {
            return -1;
        }
        keep();
        int was = prices[quarter];
        prices[quarter] = v;
        return was;
    }

    int undo() {
        if (kept.isEmpty()) {
            return -1;
        }
        takeFrom(kept.remove(kept.size() - 1));
        return kept.size();
    }

    private void keep() {
        kept.add(copy());
        if (kept.size() > 10) {
            kept.remove(0);
        }
    }

    private Model copy() {
        Model other = new Model();
        other.takeFrom(this);
        return other;
    }

    private void takeFrom(Model other) {
        shares = other.shares;
        profits = other.profits.clone();
        prices = other.prices.clone();
        events = new ArrayList<>(other.events);
        instruments = new ArrayList<>(other.instruments);
    }
}
