import java.util.NoSuchElementException;

/** Basic and diluted earnings a share for a year of four quarters; ../shared/DOC.md has the promises. */
public final class DilutedDesk {
    public static final int NONE = -1;

    private static final int NO_AMOUNT = NONE - 999999999;
    private static final int NO_ROOM = -2;
    private static final int NO_PROFIT = -2;

    private static final int QUARTERS = 4;
    private static final int QUARTER_DAYS = 90;
    private static final int LAST_DAY = QUARTERS * QUARTER_DAYS - 1;
    private static final int YEAR_DAYS = 360;

    private static final int ISSUE = 0;
    private static final int BUY = 1;
    private static final int SPLIT = 2;
    private static final int MAX_EVENTS = 20;
    private static final int MAX_SPLITS = 3;
    private static final int LEAST_SPLIT = 2;
    private static final int MOST_SPLIT = 9;

    private static final int OPTION = 0;
    private static final int BOND = 1;
    private static final int EARN_BY_PROFIT = 2;
    private static final int EARN_BY_PRICE = 3;
    private static final int MAX_INSTRUMENTS = 8;
    private static final int MOST_GRANTED = 9999;

    private static final int MOST_NUMBER = 99999;
    private static final int MOST_PRICE = 9999;
    private static final int MOST_TRIED_PROFIT = 99900;
    private static final int PROFIT_STEP = 100;

    private static final int FAULT_TOKEN = 1;
    private static final int FAULT_NUMBER = 2;
    private static final int FAULT_ONE_MORE = 3;

    private final Tape tape;
    private final Reader reader;
    private final Dilution dilution;
    private final History history;
    private Year year;
    private Year draft;
    private int faultKind;

    public DilutedDesk() {
        tape = new Tape();
        reader = new Reader(tape);
        dilution = new Dilution();
        history = new History();
        year = new Year();
        draft = new Year();
        faultKind = 0;
    }

    public int feed(int a, int b, int c, int d, int e) {
        if (!tape.hasRoom()) {
            return NONE;
        }
        tape.put(a);
        tape.put(b);
        tape.put(c);
        tape.put(d);
        tape.put(e);
        return tape.length;
    }

    public boolean end(int n) {
        if (n < 0 || n > tape.length) {
            return false;
        }
        tape.length = n;
        return true;
    }

    public int text() {
        int lines = reader.read(draft);
        faultKind = reader.faultKind;
        tape.length = 0;
        if (faultKind != 0) {
            return -1 - reader.faultPlace;
        }
        Year told = draft;
        draft = year;
        year = told;
        history.count = 0;
        return lines;
    }

    public int fault() {
        return faultKind;
    }

    public int now(int what) {
        switch (what) {
            case 0: return year.eventCount;
            case 1: return year.instrumentCount;
            case 2: return year.splitCount();
            case 3: return year.sharesOn(LAST_DAY);
            case 4: return year.latestDay();
            case 5: return history.count;
            case 6: return tape.length;
            default: return NONE;
        }
    }

    public int shares(int day, boolean restated) {
        if (!isDay(day)) {
            return NONE;
        }
        return restated ? year.restatedOn(day) : year.sharesOn(day);
    }

    public int quarter(int quarter, int what) throws NoSuchElementException {
        if (!isQuarter(quarter)) {
            throw new NoSuchElementException("no such quarter");
        }
        if (what == 0) {
            return year.profits[quarter];
        }
        if (what == 1) {
            return year.quarterPrices[quarter];
        }
        throw new NoSuchElementException("a quarter has no such thing");
    }

    public int event(int k, int what) {
        if (k < 0 || k >= year.eventCount) {
            return NONE;
        }
        switch (what) {
            case 0: return year.eventSorts[k];
            case 1: return year.eventDays[k];
            case 2: return year.eventNumbers[k];
            default: return NONE;
        }
    }

    public int instrument(int i, int what) {
        if (!year.hasInstrument(i)) {
            return NONE;
        }
        switch (what) {
            case 0: return year.instrumentSorts[i];
            case 1: return year.instrumentDays[i];
            case 2: return year.granted[i];
            case 3: return year.terms[i];
            case 4: return year.oldShares(i);
            default: return NONE;
        }
    }

    public long weight(int from, int to) throws NoSuchElementException {
        requireRun(from, to);
        return year.weightOf(from, to);
    }

    public long adds(int i, int from, int to, boolean earnings) throws NoSuchElementException {
        requireRun(from, to);
        if (!year.hasInstrument(i)) {
            throw new NoSuchElementException("no such instrument");
        }
        if (earnings) {
            return year.addedToEarnings(i, from, to);
        }
        if (year.profitFloor(i) > year.earningsOf(0, to)) {
            return 0;
        }
        return year.addedToWeight(i, from, to);
    }

    public int run(int from, int to, int what) throws NoSuchElementException {
        requireRun(from, to);
        if (what < 0 || what > 5) {
            throw new NoSuchElementException("a run has no such thing");
        }
        dilution.judge(year, from, to, NONE);
        switch (what) {
            case 0: return (int) year.earningsOf(from, to);
            case 1: return dilution.aShareWith(0, year.earningsOf(from, to));
            case 2: return dilution.diluted();
            case 3: return dilution.set;
            case 4: return dilution.rankedCount;
            default: return dilution.ender;
        }
    }

    public int rank(int from, int to, int k) throws NoSuchElementException {
        requireRun(from, to);
        dilution.judge(year, from, to, NONE);
        if (k < 0 || k >= dilution.rankedCount) {
            return NONE;
        }
        return dilution.ranked[k];
    }

    public int without(int i, int from, int to) throws NoSuchElementException {
        requireRun(from, to);
        if (!year.hasInstrument(i)) {
            return NO_AMOUNT;
        }
        return dilutedLeavingOut(i, from, to);
    }

    public int with(int set, int from, int to) throws NoSuchElementException {
        requireRun(from, to);
        if (set < 0 || set >= 1 << year.instrumentCount) {
            return NO_AMOUNT;
        }
        dilution.judge(year, from, to, NONE);
        // One without HARM adds nothing to EARNINGS either: just a bond does, by DAYS that add to WEIGHT, too.
        return dilution.aShareWith(set & dilution.rankedSet(), year.earningsOf(from, to));
    }

    public int priced(int quarter, int v, int from, int to) throws NoSuchElementException {
        requireRun(from, to);
        if (!isQuarter(quarter) || !isPrice(v)) {
            return NO_AMOUNT;
        }
        int was = year.quarterPrices[quarter];
        year.quarterPrices[quarter] = v;
        int answer = dilutedLeavingOut(NONE, from, to);
        year.quarterPrices[quarter] = was;
        return answer;
    }

    public int profit(int quarter, int i, int from, int to) throws NoSuchElementException {
        requireRun(from, to);
        if (!isQuarter(quarter) || !year.hasInstrument(i)) {
            return NONE;
        }
        return leastProfitThatTakesIn(quarter, i, from, to);
    }

    public int ifSplit(int a, int from, int to) throws NoSuchElementException {
        requireRun(from, to);
        if (a < LEAST_SPLIT || a > MOST_SPLIT || !year.hasRoomForEvent(SPLIT)) {
            return NO_AMOUNT;
        }
        year.addEvent(SPLIT, year.earliestDay(), a);
        int answer = dilutedLeavingOut(NONE, from, to);
        year.dropEvent();
        return answer;
    }

    public int tells(int sort, int day, int n) {
        if (sort < ISSUE || sort > SPLIT || !isDay(day) || day < year.earliestDay()) {
            return NONE;
        }
        if (n < year.leastOfEvent(sort) || n > year.mostOfEvent(sort)) {
            return NONE;
        }
        if (!year.hasRoomForEvent(sort)) {
            return NO_ROOM;
        }
        year.addEvent(sort, day, n);
        history.keep(History.EVENT, 0, 0);
        return year.eventCount;
    }

    public int grants(int sort, int day, int n, int k) {
        if (sort < OPTION || sort > EARN_BY_PRICE || !isDay(day) || n < 1 || n > MOST_GRANTED) {
            return NONE;
        }
        if (k < leastTerm(sort) || k > mostTerm(sort)) {
            return NONE;
        }
        if (!year.hasRoomForInstrument()) {
            return NO_ROOM;
        }
        year.addInstrument(sort, day, n, k);
        history.keep(History.INSTRUMENT, 0, 0);
        return year.instrumentCount - 1;
    }

    public int earns(int quarter, int v) {
        if (!isQuarter(quarter) || v < -MOST_NUMBER || v > MOST_NUMBER) {
            return NO_AMOUNT;
        }
        int was = year.profits[quarter];
        year.profits[quarter] = v;
        history.keep(History.PROFIT, quarter, was);
        return was;
    }

    public int prices(int quarter, int v) {
        if (!isQuarter(quarter) || !isPrice(v)) {
            return NONE;
        }
        int was = year.quarterPrices[quarter];
        year.quarterPrices[quarter] = v;
        history.keep(History.PRICE, quarter, was);
        return was;
    }

    public int undo() {
        if (history.count <= 0) {
            return NONE;
        }
        history.takeBack(year);
        return history.count;
    }

    private static void requireRun(int from, int to) {
        if (from < 0 || from > to || to >= QUARTERS) {
            throw new NoSuchElementException("no such run of quarters");
        }
    }

    private static boolean isDay(int day) {
        return day >= 0 && day <= LAST_DAY;
    }

    private static boolean isQuarter(int quarter) {
        return quarter >= 0 && quarter < QUARTERS;
    }

    private static boolean isPrice(int v) {
        return v >= 1 && v <= MOST_PRICE;
    }

    private static int leastTerm(int sort) {
        return sort == OPTION ? 1 : 0;
    }

    private static int mostTerm(int sort) {
        return sort == OPTION ? MOST_PRICE : MOST_NUMBER;
    }

    private int dilutedLeavingOut(int i, int from, int to) {
        dilution.judge(year, from, to, i);
        return dilution.diluted();
    }

    private int leastProfitThatTakesIn(int quarter, int i, int from, int to) {
        dilution.gather(year, from, to, NONE);
        boolean inRun = quarter >= from && quarter <= to;
        boolean towardsFloor = quarter <= to;
        int standing = year.profits[quarter];
        long runOthers = year.earningsOf(from, to) - (inRun ? standing : 0);
        long allOthers = year.earningsOf(0, to) - (towardsFloor ? standing : 0);
        for (int v = 0; v <= MOST_TRIED_PROFIT; v += PROFIT_STEP) {
            dilution.settle(runOthers + (inRun ? v : 0), allOthers + (towardsFloor ? v : 0));
            if ((dilution.set >> i & 1) == 1) {
                return v;
            }
        }
        return NO_PROFIT;
    }

    /** The bytes that have been fed and not yet read. */
    private static final class Tape {
        static final int SIZE = 740;
        static final int FED_AT_ONCE = 20;

        final byte[] bytes;
        int length;

        Tape() {
            bytes = new byte[SIZE];
            length = 0;
        }

        boolean hasRoom() {
            return length + FED_AT_ONCE <= SIZE;
        }

        void put(int four) {
            for (int shift = 24; shift >= 0 && length < SIZE; shift -= 8) {
                bytes[length] = (byte) (four >> shift);
                length++;
            }
        }
    }

    /** Reads the tape's TEXT into a Year; the first FAULT ends the reading. */
    private static final class Reader {
        static final int MOST_BYTES = 700;
        static final int MOST_LINES = 1 + QUARTERS + MAX_EVENTS + MAX_INSTRUMENTS;

        static final int END = 0;
        static final int WORD = 1;
        static final int NUMBER = 2;
        static final int SEMICOLON = 3;
        static final int NO_TOKEN = 4;

        final Tape tape;
        int faultKind;
        int faultPlace;
        private int place;
        private int next;
        private int token;
        private int value;

        Reader(Tape tape) {
            this.tape = tape;
        }

        /** How many LINES; with a FAULT, which is told in faultKind and faultPlace, the year is of no use. */
        int read(Year year) {
            year.reset();
            faultKind = 0;
            faultPlace = 0;
            next = 0;
            step();
            if (token == END) {
                return atEnd(0);
            }
            boolean going = readShares(year);
            for (int quarter = 0; quarter < QUARTERS && going; quarter++) {
                going = readQuarter(year, quarter);
            }
            return going ? readOthers(year) : 0;
        }

        /** One LINE more than there may be of all sorts is a FAULT, so the count ends the loop. */
        private int readOthers(Year year) {
            int lines = 1 + QUARTERS;
            while (lines <= MOST_LINES) {
                step();
                if (token == END) {
                    return atEnd(lines);
                }
                if (!readOther(year)) {
                    return lines;
                }
                lines++;
            }
            return lines;
        }

        /** Where a TEXT may end: bytes behind MOST_BYTES are a FAULT, whatever they are. */
        private int atEnd(int lines) {
            if (tape.length > MOST_BYTES) {
                fail(FAULT_TOKEN);
            }
            return lines;
        }

        /** The first TOKEN has been stepped to: without any, the TEXT would be an empty one. */
        private boolean readShares(Year year) {
            if (!isWord("shares")) {
                return fail(FAULT_TOKEN);
            }
            if (!number(1, MOST_NUMBER)) {
                return false;
            }
            year.firstShares = value;
            return semicolon();
        }

        private boolean readQuarter(Year year, int quarter) {
            if (!word("quarter")) {
                return false;
            }
            step();
            boolean loss = isWord("loss");
            if (!loss && !isWord("profit")) {
                return fail(FAULT_TOKEN);
            }
            if (!number(0, MOST_NUMBER)) {
                return false;
            }
            year.profits[quarter] = loss ? -value : value;
            if (!word("price") || !number(1, MOST_PRICE)) {
                return false;
            }
            year.quarterPrices[quarter] = value;
            return semicolon();
        }

        private boolean readOther(Year year) {
            if (isWord("issue")) {
                return readEvent(year, ISSUE);
            }
            if (isWord("buy")) {
                return readEvent(year, BUY);
            }
            if (isWord("split")) {
                return readEvent(year, SPLIT);
            }
            if (isWord("option")) {
                return readInstrument(year, OPTION);
            }
            if (isWord("bond")) {
                return readInstrument(year, BOND);
            }
            if (isWord("earn")) {
                return readInstrument(year, EARN_BY_PROFIT);
            }
            return fail(FAULT_TOKEN);
        }

        private boolean readEvent(Year year, int sort) {
            if (!year.hasRoomForEvent(sort)) {
                return fail(FAULT_ONE_MORE);
            }
            if (!number(year.earliestDay(), LAST_DAY)) {
                return false;
            }
            int day = value;
            if (!number(year.leastOfEvent(sort), year.mostOfEvent(sort))) {
                return false;
            }
            year.addEvent(sort, day, value);
            return semicolon();
        }

        private boolean readInstrument(Year year, int wordSort) {
            int sort = wordSort;
            if (!year.hasRoomForInstrument()) {
                return fail(FAULT_ONE_MORE);
            }
            if (!number(0, LAST_DAY)) {
                return false;
            }
            int day = value;
            if (!number(1, MOST_GRANTED)) {
                return false;
            }
            int granted = value;
            if (sort == EARN_BY_PROFIT) {
                step();
                if (isWord("price")) {
                    sort = EARN_BY_PRICE;
                } else if (!isWord("profit")) {
                    return fail(FAULT_TOKEN);
                }
            }
            if (!number(leastTerm(sort), mostTerm(sort))) {
                return false;
            }
            year.addInstrument(sort, day, granted, value);
            return semicolon();
        }

        private boolean word(String due) {
            step();
            return isWord(due) || fail(FAULT_TOKEN);
        }

        private boolean number(int least, int most) {
            step();
            if (token != NUMBER) {
                return fail(FAULT_TOKEN);
            }
            return value >= least && value <= most || fail(FAULT_NUMBER);
        }

        private boolean semicolon() {
            step();
            return token == SEMICOLON || fail(FAULT_TOKEN);
        }

        private boolean fail(int kind) {
            faultKind = kind;
            faultPlace = place;
            return false;
        }

        private boolean isWord(String due) {
            if (token != WORD || next - place != due.length()) {
                return false;
            }
            for (int k = 0; k < due.length(); k++) {
                if (tape.bytes[place + k] != due.charAt(k)) {
                    return false;
                }
            }
            return true;
        }

        /** Goes to the next TOKEN; none begins at MOST_BYTES or behind, but one that begins ahead is read whole. */
        private void step() {
            int end = Math.min(tape.length, MOST_BYTES);
            while (next < end && (tape.bytes[next] == ' ' || tape.bytes[next] == '\n')) {
                next++;
            }
            if (next >= end) {
                place = end;
                token = END;
                return;
            }
            place = next;
            if (tape.bytes[next] == ';') {
                next++;
                token = SEMICOLON;
                return;
            }
            stepLettersAndDigits();
        }

        private void stepLettersAndDigits() {
            int letters = 0;
            int digits = 0;
            value = 0;
            boolean going = true;
            while (going && next < tape.length) {
                int sign = tape.bytes[next];
                if (sign >= 'a' && sign <= 'z') {
                    letters++;
                } else if (sign >= '0' && sign <= '9') {
                    digits++;
                    value = digits <= 5 ? value * 10 + sign - '0' : 0;
                } else {
                    going = false;
                }
                if (going) {
                    next++;
                }
            }
            if (letters > 0 && digits == 0) {
                token = WORD;
            } else if (letters == 0 && digits >= 1 && digits <= 5) {
                token = NUMBER;
            } else {
                token = NO_TOKEN;
            }
        }
    }

    /** The shares, quarters, EVENTS and INSTRUMENTS that stand, and what follows from them. */
    private static final class Year {
        /** Below all EARNINGS: four losses of 99999 do not come near. */
        static final long NO_FLOOR = -1000000000L;

        int firstShares;
        final int[] profits;
        final int[] quarterPrices;
        int eventCount;
        final int[] eventSorts;
        final int[] eventDays;
        final int[] eventNumbers;
        int instrumentCount;
        final int[] instrumentSorts;
        final int[] instrumentDays;
        final int[] granted;
        final int[] terms;

        Year() {
            profits = new int[QUARTERS];
            quarterPrices = new int[QUARTERS];
            eventSorts = new int[MAX_EVENTS];
            eventDays = new int[MAX_EVENTS];
            eventNumbers = new int[MAX_EVENTS];
            instrumentSorts = new int[MAX_INSTRUMENTS];
            instrumentDays = new int[MAX_INSTRUMENTS];
            granted = new int[MAX_INSTRUMENTS];
            terms = new int[MAX_INSTRUMENTS];
            reset();
        }

        void reset() {
            firstShares = 1;
            for (int quarter = 0; quarter < QUARTERS; quarter++) {
                profits[quarter] = 0;
                quarterPrices[quarter] = 1;
            }
            eventCount = 0;
            instrumentCount = 0;
        }

        boolean hasInstrument(int i) {
            return i >= 0 && i < instrumentCount;
        }

        boolean hasRoomForEvent(int sort) {
            return eventCount < MAX_EVENTS && (sort != SPLIT || splitCount() < MAX_SPLITS);
        }

        boolean hasRoomForInstrument() {
            return instrumentCount < MAX_INSTRUMENTS;
        }

        void addEvent(int sort, int day, int number) {
            if (eventCount < MAX_EVENTS) {
                eventSorts[eventCount] = sort;
                eventDays[eventCount] = day;
                eventNumbers[eventCount] = number;
                eventCount++;
            }
        }

        void dropEvent() {
            if (eventCount > 0) {
                eventCount--;
            }
        }

        void addInstrument(int sort, int day, int number, int term) {
            if (instrumentCount < MAX_INSTRUMENTS) {
                instrumentSorts[instrumentCount] = sort;
                instrumentDays[instrumentCount] = day;
                granted[instrumentCount] = number;
                terms[instrumentCount] = term;
                instrumentCount++;
            }
        }

        void dropInstrument() {
            if (instrumentCount > 0) {
                instrumentCount--;
            }
        }

        int splitCount() {
            int count = 0;
            for (int k = 0; k < eventCount; k++) {
                if (eventSorts[k] == SPLIT) {
                    count++;
                }
            }
            return count;
        }

        int latestDay() {
            return eventCount > 0 ? eventDays[eventCount - 1] : NONE;
        }

        int earliestDay() {
            return Math.max(latestDay(), 0);
        }

        int leastOfEvent(int sort) {
            return sort == SPLIT ? LEAST_SPLIT : 1;
        }

        int mostOfEvent(int sort) {
            if (sort == SPLIT) {
                return MOST_SPLIT;
            }
            return sort == BUY ? Math.min(MOST_NUMBER, sharesOn(LAST_DAY) - 1) : MOST_NUMBER;
        }

        /** At most 18 times 99999, by three splits of 9: an int holds it. */
        int sharesOn(int day) {
            int count = firstShares;
            for (int k = 0; k < eventCount && eventDays[k] <= day; k++) {
                int number = eventNumbers[k];
                switch (eventSorts[k]) {
                    case ISSUE: count += number; break;
                    case BUY: count -= number; break;
                    default: count *= number; break;
                }
            }
            return count;
        }

        int restatedOn(int day) {
            return sharesOn(day) * splitsBehind(day, LAST_DAY);
        }

        /** A of all splits behind a DAY, up to a last one, multiplied. */
        int splitsBehind(int day, int last) {
            int product = 1;
            for (int k = 0; k < eventCount; k++) {
                if (eventSorts[k] == SPLIT && eventDays[k] > day && eventDays[k] <= last) {
                    product *= eventNumbers[k];
                }
            }
            return product;
        }

        long weightOf(int from, int to) {
            int end = dayBehind(to);
            int day = from * QUARTER_DAYS;
            long weight = 0;
            for (int k = 0; k < eventCount; k++) {
                int change = Math.min(eventDays[k], end);
                if (change > day) {
                    weight += (long) restatedOn(day) * (change - day);
                    day = change;
                }
            }
            return weight + (long) restatedOn(day) * (end - day);
        }

        long earningsOf(int from, int to) {
            long earnings = 0;
            for (int quarter = from; quarter <= to; quarter++) {
                earnings += profits[quarter];
            }
            return earnings;
        }

        int oldShares(int i) {
            return granted[i] * splitsBehind(instrumentDays[i], LAST_DAY);
        }

        /** Of an earn by 'profit': what EARNINGS must reach; all others count whatever they are. */
        long profitFloor(int i) {
            return instrumentSorts[i] == EARN_BY_PROFIT ? terms[i] : NO_FLOOR;
        }

        /** What it ADDS to WEIGHT, its profitFloor reached. */
        long addedToWeight(int i, int from, int to) {
            int sort = instrumentSorts[i];
            if (sort == OPTION) {
                long added = 0;
                for (int quarter = from; quarter <= to; quarter++) {
                    added += addedByOption(i, quarter);
                }
                return added;
            }
            if (sort == EARN_BY_PRICE && scaledPrice(i, to) < terms[i]) {
                return 0;
            }
            return (long) oldShares(i) * daysCounted(i, from, to);
        }

        long addedToEarnings(int i, int from, int to) {
            if (instrumentSorts[i] != BOND) {
                return 0;
            }
            return (long) terms[i] * daysCounted(i, from, to) / YEAR_DAYS;
        }

        private long addedByOption(int i, int quarter) {
            long price = scaledPrice(i, quarter);
            long above = price - terms[i];
            if (above <= 0 || price <= 0) {
                return 0;
            }
            return (long) oldShares(i) * daysCounted(i, quarter, quarter) * above / price;
        }

        private int scaledPrice(int i, int quarter) {
            return quarterPrices[quarter] * splitsBehind(instrumentDays[i], dayBehind(quarter) - 1);
        }

        private int daysCounted(int i, int from, int to) {
            int first = Math.max(from * QUARTER_DAYS, instrumentDays[i]);
            return Math.max(dayBehind(to) - first, 0);
        }

        private static int dayBehind(int quarter) {
            return (quarter + 1) * QUARTER_DAYS;
        }
    }

    /** Which INSTRUMENTS of a RUN have HARM, how they rank, and which are taken in. */
    private static final class Dilution {
        final int[] ranked;
        int rankedCount;
        int set;
        int ender;
        private final long[] toWeight;
        private final long[] toEarnings;
        private final long[] profitFloors;
        private final int[] candidates;
        private int candidateCount;
        private int runDays;
        private long basicWeight;
        private long basicEarnings;

        Dilution() {
            ranked = new int[MAX_INSTRUMENTS];
            toWeight = new long[MAX_INSTRUMENTS];
            toEarnings = new long[MAX_INSTRUMENTS];
            profitFloors = new long[MAX_INSTRUMENTS];
            candidates = new int[MAX_INSTRUMENTS];
        }

        /** All of a RUN as it stands, but for the INSTRUMENT left out (NONE: all are there). */
        void judge(Year year, int from, int to, int leftOut) {
            gather(year, from, to, leftOut);
            settle(year.earningsOf(from, to), year.earningsOf(0, to));
        }

        /** What does not hang on the profits: each one's part and its place, its profit floor reached. */
        void gather(Year year, int from, int to, int leftOut) {
            runDays = (to - from + 1) * QUARTER_DAYS;
            basicWeight = year.weightOf(from, to);
            candidateCount = 0;
            for (int i = 0; i < year.instrumentCount; i++) {
                toWeight[i] = year.addedToWeight(i, from, to);
                toEarnings[i] = year.addedToEarnings(i, from, to);
                profitFloors[i] = year.profitFloor(i);
                if (i != leftOut && toWeight[i] > 0) {
                    placeByHarm(i);
                }
            }
        }

        /** RANK and SET, with a RUN's EARNINGS and those from quarter 0 to its last. */
        void settle(long earnings, long reached) {
            basicEarnings = earnings;
            rankedCount = 0;
            for (int k = 0; k < candidateCount; k++) {
                int i = candidates[k];
                if (profitFloors[i] <= reached) {
                    ranked[rankedCount] = i;
                    rankedCount++;
                }
            }
            takeIn();
        }

        int diluted() {
            return aShareWith(set, basicEarnings);
        }

        int rankedSet() {
            int bits = 0;
            for (int k = 0; k < rankedCount; k++) {
                bits |= 1 << ranked[k];
            }
            return bits;
        }

        int aShareWith(int taken, long basic) {
            long earnings = basic;
            long weight = basicWeight;
            for (int i = 0; i < MAX_INSTRUMENTS; i++) {
                if ((taken >> i & 1) == 1) {
                    earnings += toEarnings[i];
                    weight += toWeight[i];
                }
            }
            return weight <= 0 ? 0 : (int) Math.floorDiv(earnings * 1000 * runDays, weight);
        }

        private void takeIn() {
            long earnings = basicEarnings;
            long weight = basicWeight;
            set = 0;
            ender = NONE;
            for (int k = 0; k < rankedCount && ender == NONE; k++) {
                int i = ranked[k];
                long moreEarnings = earnings + toEarnings[i];
                long moreWeight = weight + toWeight[i];
                // Fractions are compared crosswise: rounded ones would not tell a small loss.
                if (moreEarnings * weight < earnings * moreWeight) {
                    earnings = moreEarnings;
                    weight = moreWeight;
                    set |= 1 << i;
                } else {
                    ender = i;
                }
            }
        }

        private void placeByHarm(int i) {
            int at = candidateCount;
            while (at > 0 && harmsLess(i, candidates[at - 1])) {
                candidates[at] = candidates[at - 1];
                at--;
            }
            candidates[at] = i;
            candidateCount++;
        }

        private boolean harmsLess(int i, int other) {
            return toEarnings[i] * toWeight[other] < toEarnings[other] * toWeight[i];
        }
    }

    /** The latest changes, the oldest first. */
    private static final class History {
        static final int KEPT = 10;

        static final int EVENT = 0;
        static final int INSTRUMENT = 1;
        static final int PROFIT = 2;
        static final int PRICE = 3;

        int count;
        private final int[] kinds;
        private final int[] quarters;
        private final int[] before;

        History() {
            kinds = new int[KEPT];
            quarters = new int[KEPT];
            before = new int[KEPT];
            count = 0;
        }

        void keep(int kind, int quarter, int was) {
            if (count >= KEPT) {
                forgetOldest();
            }
            kinds[count] = kind;
            quarters[count] = quarter;
            before[count] = was;
            count++;
        }

        void takeBack(Year year) {
            if (count <= 0) {
                return;
            }
            count--;
            switch (kinds[count]) {
                case EVENT: year.dropEvent(); break;
                case INSTRUMENT: year.dropInstrument(); break;
                case PROFIT: year.profits[quarters[count]] = before[count]; break;
                default: year.quarterPrices[quarters[count]] = before[count]; break;
            }
        }

        private void forgetOldest() {
            for (int k = 1; k < KEPT; k++) {
                kinds[k - 1] = kinds[k];
                quarters[k - 1] = quarters[k];
                before[k - 1] = before[k];
            }
            count = KEPT - 1;
        }
    }
}
