import java.util.Arrays;
import java.util.NoSuchElementException;

/** A tanker compartment desk. The numbers in the comments are those of the document's promises. */
public final class TankerDesk {
    public static final int NONE = -1;

    private static final int MOST_TAPE = 740;
    private static final int MOST_TEXT = 700;
    private static final int MOST_COMPARTMENTS = 5;
    private static final int MOST_LIQUIDS = 6;
    private static final int MOST_WAITING = 4;
    private static final int MOST_DROPS = 20;
    private static final int MOST_QUANTITY = 4995;
    private static final int MOST_UNDONE = 10;

    private static final int SECOND_REFUSAL = -2;
    private static final int THIRD_REFUSAL = -3;
    private static final int FOURTH_REFUSAL = -4;
    private static final int NO_SUCH_READING = NONE - 99999999;

    // How the tanker stands.
    private static final int LAWFUL = 0;
    private static final int SURGE = 1;
    private static final int FRONT_ABOVE = 2;
    private static final int FRONT_BELOW = 3;
    private static final int REAR_ABOVE = 4;

    // How a drop is.
    private static final int WAITS = 0;
    private static final int ABOARD = 1;
    private static final int DONE = 2;
    private static final int CANCELLED = 3;

    // The places of the numbers of a 'tanker' line, and their bounds (HIGH begins at LOW).
    private static final int W = 0;
    private static final int FRONT = 1;
    private static final int REAR = 2;
    private static final int LEAST = 3;
    private static final int MOST = 4;
    private static final int HIND = 5;
    private static final int FILL = 6;
    private static final int LOW = 7;
    private static final int HIGH = 8;
    private static final int HEAD_NUMBERS = 9;
    private static final int[] HEAD_LEAST = {1, 0, 0, 0, 0, 0, 1, 0, 0};
    private static final int[] HEAD_MOST = {99, 9999, 9999, 9999, 9999, 9999, 100, 100, 100};

    // The sorts of the lines behind the first, and how many of each a text may have.
    private static final int COMPARTMENT_LINE = 0;
    private static final int LIQUID_LINE = 1;
    private static final int BAR_LINE = 2;
    private static final int LAST_LINE = 3;
    private static final int DROP_LINE = 4;
    private static final int LINE_SORTS = 5;
    private static final int[] MOST_LINES = {5, 6, 36, 20, 4};

    // What the reader sees next on the tape.
    private static final int NO_TOKEN = 0;
    private static final int WORD = 1;
    private static final int NUMBER = 2;
    private static final int SIGN = 3;
    private static final int TEXT_END = 4;
    private static final int MOST_DIGITS = 4;

    // The kinds of faults.
    private static final int UNFIT_TOKEN = 1;
    private static final int UNFIT_NUMBER = 2;
    private static final int LINE_TOO_MANY = 3;

    private final byte[] tape;
    private int taped;
    private int latestFault;
    private final Reader reader;
    private Told told;
    private Told spare;
    private final State state;
    private final History history;
    private final Cargo trial;
    private final OrderTable table;
    private final Planner planner;

    /** Promise 1. */
    public TankerDesk() {
        tape = new byte[MOST_TAPE];
        taped = 0;
        latestFault = 0;
        reader = new Reader();
        told = new Told();
        spare = new Told();
        state = new State();
        history = new History();
        trial = new Cargo();
        table = new OrderTable();
        planner = new Planner();
        told.clear();
        state.begin(told);
    }

    /** Promise 2. */
    public int feed(int a, int b, int c, int d, int e) {
        if (taped + 20 > MOST_TAPE) {
            return NONE;
        }
        tapeNumber(a);
        tapeNumber(b);
        tapeNumber(c);
        tapeNumber(d);
        tapeNumber(e);
        return taped;
    }

    /** Promise 3. */
    public boolean end(int n) {
        if (n < 0 || n > taped) {
            return false;
        }
        taped = n;
        return true;
    }

    /** Promise 4. */
    public int text() {
        // The spare is read into, so that a faulty text leaves the tanker as it is.
        boolean right = reader.reads(tape, taped, spare);
        taped = 0;
        latestFault = right ? 0 : reader.faultKind;
        if (!right) {
            return -1 - reader.faultPlace;
        }
        Told former = told;
        told = spare;
        spare = former;
        state.begin(told);
        history.forget();
        return reader.lines;
    }

    /** Promise 5. */
    public int fault() {
        return latestFault;
    }

    /** Promise 6. */
    public int now(int what) {
        switch (what) {
            case 0: return told.compartments;
            case 1: return told.liquids;
            case 2: return state.drops;
            case 3: return Long.bitCount(told.bars);
            case 4: return state.cargo.frontLoad(told, 0);
            case 5: return state.cargo.rearLoad(told, 0);
            case 6: return state.cargo.standing(told, 0);
            case 7: return state.washed;
            case 8: return history.kept;
            case 9: return taped;
            default: return NO_SUCH_READING;
        }
    }

    /** Promise 7. */
    public int compartment(int compartment, int what) {
        if (!told.hasCompartment(compartment)) {
            return NONE;
        }
        switch (what) {
            case 0: return told.cap[compartment];
            case 1: return told.x[compartment];
            case 2: return told.open[compartment];
            case 3: return told.top(compartment);
            case 4: return state.cargo.held[compartment];
            case 5: return state.cargo.owner[compartment];
            case 6: return state.cargo.last[compartment];
            default: return NONE;
        }
    }

    /** Promise 8. */
    public int drop(int drop, int what) throws NoSuchElementException {
        if (!state.hasDrop(drop) || what < 0 || what > 5) {
            throw new NoSuchElementException();
        }
        switch (what) {
            case 0: return told.dropLiquid[drop];
            case 1: return told.dropQuantity[drop];
            case 2: return state.cargo.loaded(drop);
            case 3: return state.how(told, drop);
            case 4: return state.metered[drop];
            default: return state.shortOf(told, drop);
        }
    }

    /** Promise 9. */
    public boolean may(int compartment, int liquid) {
        return told.hasCompartment(compartment) && told.hasLiquid(liquid)
                && !told.isBarred(state.cargo.last[compartment], liquid);
    }

    /** Promise 10. */
    public int would(int compartment, int liquid, int quantity) {
        if (!told.hasCompartment(compartment) || !told.hasLiquid(liquid)
                || quantity < 0 || quantity > told.cap[compartment]) {
            return NONE;
        }
        trial.copyFrom(state.cargo);
        trial.lay(told, compartment, NONE, liquid, quantity);
        return trial.standing(told, 0);
    }

    /** Promise 11. */
    public int orders() {
        return table.count(told, state.cargo, state.drops);
    }

    /** Promise 12. */
    public int ordered(int k) {
        table.count(told, state.cargo, state.drops);
        return table.dropOfFirst(k);
    }

    /** Promise 13. */
    public int without(int drop) {
        if (!isSo(drop, ABOARD)) {
            return NONE;
        }
        return state.cargo.standing(told, state.cargo.partsOf(drop));
    }

    /** Promise 14. */
    public int plan(int what) {
        if (!planner.findsPlan(told, state)) {
            return SECOND_REFUSAL;
        }
        if (what == 0) {
            return planner.bestServed;
        }
        if (what == 1) {
            return planner.bestUsed;
        }
        if (what >= 10 && told.hasCompartment(what - 10)) {
            return planner.bestDrop[what - 10];
        }
        if (what >= 20 && told.hasCompartment(what - 20)) {
            return planner.bestAmount[what - 20];
        }
        return NONE;
    }

    /** Promise 15. */
    public int washes() {
        int fewest = planner.fewestWashes(told, state);
        return fewest == NONE ? SECOND_REFUSAL : fewest;
    }

    /** Promise 16. */
    public int asks(int liquid, int quantity) {
        if (!told.hasLiquid(liquid) || quantity < 1 || quantity > MOST_QUANTITY) {
            return NONE;
        }
        if (state.waiting(told) >= MOST_WAITING) {
            return SECOND_REFUSAL;
        }
        if (state.drops >= MOST_DROPS) {
            return THIRD_REFUSAL;
        }
        history.keep(state);
        int drop = state.drops;
        told.dropLiquid[drop] = liquid;
        told.dropQuantity[drop] = quantity;
        state.addDrop();
        return drop;
    }

    /** Promise 17. */
    public boolean cancel(int drop) {
        if (!isSo(drop, WAITS) || state.cargo.loaded(drop) > 0) {
            return false;
        }
        history.keep(state);
        state.fate[drop] = CANCELLED;
        return true;
    }

    /** Promise 18. */
    public int put(int compartment, int drop) {
        if (!told.hasCompartment(compartment) || !isSo(drop, WAITS)) {
            return NONE;
        }
        if (state.cargo.held[compartment] > 0) {
            return SECOND_REFUSAL;
        }
        int liquid = told.dropLiquid[drop];
        if (told.isBarred(state.cargo.last[compartment], liquid)) {
            return THIRD_REFUSAL;
        }
        int top = told.top(compartment);
        if (top == 0) {
            return FOURTH_REFUSAL;
        }
        history.keep(state);
        int amount = Math.min(top, told.dropQuantity[drop] - state.cargo.loaded(drop));
        state.cargo.lay(told, compartment, drop, liquid, amount);
        return amount;
    }

    /** Promise 19. */
    public int load() {
        if (!planner.findsPlan(told, state)) {
            return SECOND_REFUSAL;
        }
        if (planner.bestServed == 0) {
            return NONE;
        }
        history.keep(state);
        for (int c = 0; c < told.compartments; c++) {
            int drop = planner.bestDrop[c];
            if (state.hasDrop(drop)) {
                state.cargo.lay(told, c, drop, told.dropLiquid[drop], planner.bestAmount[c]);
            }
        }
        return planner.bestServed;
    }

    /** Promise 20. */
    public int unload(int drop, int metered) {
        if (!isSo(drop, ABOARD) || metered < 0 || metered > state.cargo.loaded(drop)) {
            return NONE;
        }
        int parts = state.cargo.partsOf(drop);
        if (state.cargo.standing(told, parts) != LAWFUL) {
            return SECOND_REFUSAL;
        }
        history.keep(state);
        state.cargo.takeOutAll(parts);
        state.fate[drop] = DONE;
        state.metered[drop] = metered;
        return state.shortOf(told, drop);
    }

    /** Promise 21. */
    public int empty(int compartment) {
        if (!told.hasCompartment(compartment) || state.cargo.held[compartment] == 0) {
            return NONE;
        }
        // One that waits is among those that wait already; one aboard would come to them.
        if (isSo(state.cargo.owner[compartment], ABOARD) && state.waiting(told) >= MOST_WAITING) {
            return SECOND_REFUSAL;
        }
        history.keep(state);
        int amount = state.cargo.held[compartment];
        state.cargo.takeOut(compartment);
        return amount;
    }

    /** Promise 22. */
    public boolean wash(int compartment) {
        if (!told.hasCompartment(compartment) || state.cargo.held[compartment] > 0
                || state.cargo.last[compartment] == NONE) {
            return false;
        }
        history.keep(state);
        state.cargo.last[compartment] = NONE;
        state.washed++;
        return true;
    }

    /** Promise 23. */
    public int undo() {
        return history.goBack(state) ? history.kept : NONE;
    }

    private void tapeNumber(int number) {
        for (int shift = 24; shift >= 0; shift -= 8) {
            if (taped < MOST_TAPE) {
                tape[taped] = (byte) (number >> shift);
                taped++;
            }
        }
    }

    private boolean isSo(int drop, int how) {
        return state.hasDrop(drop) && state.how(told, drop) == how;
    }

    /** What a text tells, and the drops that were asked for behind it. */
    private static final class Told {
        final int[] head = new int[HEAD_NUMBERS];
        int compartments;
        final int[] cap = new int[MOST_COMPARTMENTS];
        final int[] x = new int[MOST_COMPARTMENTS];
        final int[] open = new int[MOST_COMPARTMENTS];
        final int[] last = new int[MOST_COMPARTMENTS];
        int liquids;
        final int[] density = new int[MOST_LIQUIDS];
        /** A bit for each pair of liquids, so that a bar told twice is one. */
        long bars;
        int textDrops;
        final int[] dropLiquid = new int[MOST_DROPS];
        final int[] dropQuantity = new int[MOST_DROPS];

        void clear() {
            Arrays.fill(head, 0);
            head[W] = 1;
            compartments = 0;
            Arrays.fill(last, NONE);
            liquids = 0;
            bars = 0;
            textDrops = 0;
        }

        boolean hasCompartment(int compartment) {
            return compartment >= 0 && compartment < compartments;
        }

        boolean hasLiquid(int liquid) {
            return liquid >= 0 && liquid < liquids;
        }

        int top(int compartment) {
            return cap[compartment] * head[FILL] / 100;
        }

        void bar(int before, int behind) {
            bars |= 1L << (before * MOST_LIQUIDS + behind);
        }

        boolean isBarred(int before, int behind) {
            return before != NONE && (bars >> (before * MOST_LIQUIDS + behind) & 1L) != 0;
        }
    }

    /** Reads a tape as a text. */
    private static final class Reader {
        private final int[] linesOf = new int[LINE_SORTS];
        private byte[] tape;
        private int size;
        private int at;
        private int token;
        private int start;
        private int value;
        private Told told;
        int lines;
        int faultKind;
        int faultPlace;

        /** Whether the first bytes of a tape are a text; it is in 'into' then. */
        boolean reads(byte[] from, int bytes, Told into) {
            tape = from;
            size = bytes;
            at = 0;
            lines = 0;
            told = into;
            told.clear();
            Arrays.fill(linesOf, 0);
            // A line has two bytes at least, so the bound is never met.
            for (int guard = 0; guard < MOST_TAPE; guard++) {
                advance();
                if (token == TEXT_END) {
                    return true;
                }
                boolean right = lines == 0 ? readTanker() : readOther();
                if (!right || !readSign()) {
                    return false;
                }
                lines++;
            }
            return refuse(UNFIT_TOKEN);
        }

        private boolean refuse(int kind) {
            faultKind = kind;
            faultPlace = start;
            return false;
        }

        private boolean readSign() {
            advance();
            return token == SIGN || refuse(UNFIT_TOKEN);
        }

        private boolean readTanker() {
            if (!isWord("tanker")) {
                return refuse(UNFIT_TOKEN);
            }
            for (int i = 0; i < HEAD_NUMBERS; i++) {
                int least = i == HIGH ? told.head[LOW] : HEAD_LEAST[i];
                if (!readNumber(least, HEAD_MOST[i])) {
                    return false;
                }
                told.head[i] = value;
            }
            return true;
        }

        private boolean readOther() {
            int sort = sortOfWord();
            if (sort == NONE) {
                return refuse(UNFIT_TOKEN);
            }
            if (linesOf[sort] >= MOST_LINES[sort]) {
                return refuse(LINE_TOO_MANY);
            }
            linesOf[sort]++;
            switch (sort) {
                case COMPARTMENT_LINE: return readCompartment();
                case LIQUID_LINE: return readLiquid();
                case BAR_LINE: return readBar();
                case LAST_LINE: return readLast();
                default: return readDrop();
            }
        }

        private int sortOfWord() {
            if (isWord("compartment")) {
                return COMPARTMENT_LINE;
            }
            if (isWord("liquid")) {
                return LIQUID_LINE;
            }
            if (isWord("bar")) {
                return BAR_LINE;
            }
            if (isWord("last")) {
                return LAST_LINE;
            }
            return isWord("drop") ? DROP_LINE : NONE;
        }

        private boolean readCompartment() {
            if (!readNumber(1, 999)) {
                return false;
            }
            told.cap[told.compartments] = value;
            if (!readNumber(0, 99)) {
                return false;
            }
            told.x[told.compartments] = value;
            advance();
            boolean isOpen = isWord("open");
            if (!isOpen && !isWord("baffled")) {
                return refuse(UNFIT_TOKEN);
            }
            told.open[told.compartments] = isOpen ? 1 : 0;
            told.compartments++;
            return true;
        }

        private boolean readLiquid() {
            if (!readNumber(1, 20)) {
                return false;
            }
            told.density[told.liquids] = value;
            told.liquids++;
            return true;
        }

        private boolean readBar() {
            if (!readNumber(0, told.liquids - 1)) {
                return false;
            }
            int before = value;
            if (!readNumber(0, told.liquids - 1)) {
                return false;
            }
            told.bar(before, value);
            return true;
        }

        private boolean readLast() {
            if (!readNumber(0, told.compartments - 1)) {
                return false;
            }
            int compartment = value;
            if (!readNumber(0, told.liquids - 1)) {
                return false;
            }
            told.last[compartment] = value;
            return true;
        }

        private boolean readDrop() {
            if (!readNumber(0, told.liquids - 1)) {
                return false;
            }
            told.dropLiquid[told.textDrops] = value;
            if (!readNumber(1, MOST_QUANTITY)) {
                return false;
            }
            told.dropQuantity[told.textDrops] = value;
            told.textDrops++;
            return true;
        }

        private boolean readNumber(int least, int most) {
            advance();
            if (token != NUMBER) {
                return refuse(UNFIT_TOKEN);
            }
            return value >= least && value <= most || refuse(UNFIT_NUMBER);
        }

        private boolean isWord(String word) {
            if (token != WORD || at - start != word.length()) {
                return false;
            }
            for (int i = 0; i < word.length(); i++) {
                if (tape[start + i] != word.charAt(i)) {
                    return false;
                }
            }
            return true;
        }

        private void advance() {
            while (at < size && (tape[at] == ' ' || tape[at] == '\n')) {
                at++;
            }
            start = at;
            if (size > MOST_TEXT && at >= MOST_TEXT) {
                start = MOST_TEXT;
                token = NO_TOKEN;
            } else if (at >= size) {
                token = TEXT_END;
            } else if (tape[at] == ';') {
                at++;
                token = SIGN;
            } else {
                advanceRun();
            }
        }

        private void advanceRun() {
            int digits = 0;
            value = 0;
            while (at < size && (isLetter(tape[at]) || isDigit(tape[at]))) {
                if (isDigit(tape[at])) {
                    digits++;
                    // Longer ones are no tokens: their value is not looked at.
                    value = digits <= MOST_DIGITS ? value * 10 + tape[at] - '0' : value;
                }
                at++;
            }
            int length = at - start;
            if (length > 0 && digits == 0) {
                token = WORD;
            } else if (length > 0 && length <= MOST_DIGITS && digits == length) {
                token = NUMBER;
            } else {
                token = NO_TOKEN;
            }
        }

        private static boolean isLetter(int sign) {
            return sign >= 'a' && sign <= 'z';
        }

        private static boolean isDigit(int sign) {
            return sign >= '0' && sign <= '9';
        }
    }

    /** What lies in the compartments. Sets of compartments are told as bits. */
    private static final class Cargo {
        final int[] held = new int[MOST_COMPARTMENTS];
        final int[] owner = new int[MOST_COMPARTMENTS];
        final int[] last = new int[MOST_COMPARTMENTS];
        private final int[] weight = new int[MOST_COMPARTMENTS];

        void copyFrom(Cargo other) {
            System.arraycopy(other.held, 0, held, 0, MOST_COMPARTMENTS);
            System.arraycopy(other.weight, 0, weight, 0, MOST_COMPARTMENTS);
            System.arraycopy(other.owner, 0, owner, 0, MOST_COMPARTMENTS);
            System.arraycopy(other.last, 0, last, 0, MOST_COMPARTMENTS);
        }

        void begin(Told told) {
            Arrays.fill(held, 0);
            Arrays.fill(weight, 0);
            Arrays.fill(owner, NONE);
            System.arraycopy(told.last, 0, last, 0, MOST_COMPARTMENTS);
        }

        void lay(Told told, int compartment, int drop, int liquid, int amount) {
            held[compartment] = amount;
            weight[compartment] = amount * told.density[liquid];
            owner[compartment] = drop;
            last[compartment] = liquid;
        }

        void takeOut(int compartment) {
            held[compartment] = 0;
            weight[compartment] = 0;
            owner[compartment] = NONE;
        }

        void takeOutAll(int parts) {
            for (int c = 0; c < MOST_COMPARTMENTS; c++) {
                if (isIn(parts, c)) {
                    takeOut(c);
                }
            }
        }

        int loaded(int drop) {
            int sum = 0;
            for (int c = 0; c < MOST_COMPARTMENTS; c++) {
                if (owner[c] == drop) {
                    sum += held[c];
                }
            }
            return sum;
        }

        int partsOf(int drop) {
            int parts = 0;
            for (int c = 0; c < MOST_COMPARTMENTS; c++) {
                if (owner[c] == drop) {
                    parts |= 1 << c;
                }
            }
            return parts;
        }

        /** How the tanker stands, were the parts 'gone' empty. */
        int standing(Told told, int gone) {
            if (surges(told, gone)) {
                return SURGE;
            }
            int width = told.head[W];
            int front = frontLoad(told, gone);
            if (front > told.head[MOST] * width) {
                return FRONT_ABOVE;
            }
            if (front < told.head[LEAST] * width) {
                return FRONT_BELOW;
            }
            return rearLoad(told, gone) > told.head[HIND] * width ? REAR_ABOVE : LAWFUL;
        }

        int frontLoad(Told told, int gone) {
            int width = told.head[W];
            int sum = told.head[FRONT] * width;
            for (int c = 0; c < told.compartments; c++) {
                sum += isIn(gone, c) ? 0 : weight[c] * (width - told.x[c]);
            }
            return sum;
        }

        int rearLoad(Told told, int gone) {
            int sum = told.head[REAR] * told.head[W];
            for (int c = 0; c < told.compartments; c++) {
                sum += isIn(gone, c) ? 0 : weight[c] * told.x[c];
            }
            return sum;
        }

        private boolean surges(Told told, int gone) {
            for (int c = 0; c < told.compartments; c++) {
                int hundredths = held[c] * 100;
                if (told.open[c] == 1 && held[c] > 0 && !isIn(gone, c)
                        && hundredths > told.head[LOW] * told.cap[c]
                        && hundredths < told.head[HIGH] * told.cap[c]) {
                    return true;
                }
            }
            return false;
        }

        private static boolean isIn(int parts, int compartment) {
            return (parts >> compartment & 1) != 0;
        }
    }

    /** All that the acts change, so that a copy of it undoes them. */
    private static final class State {
        final Cargo cargo = new Cargo();
        int drops;
        /** DONE, CANCELLED, or else WAITS: whether it is ABOARD then what is loaded tells. */
        final int[] fate = new int[MOST_DROPS];
        final int[] metered = new int[MOST_DROPS];
        int washed;

        void begin(Told told) {
            cargo.begin(told);
            drops = 0;
            for (int d = 0; d < told.textDrops; d++) {
                addDrop();
            }
            washed = 0;
        }

        void addDrop() {
            if (drops < MOST_DROPS) {
                fate[drops] = WAITS;
                metered[drops] = 0;
                drops++;
            }
        }

        void copyFrom(State other) {
            cargo.copyFrom(other.cargo);
            drops = other.drops;
            System.arraycopy(other.fate, 0, fate, 0, MOST_DROPS);
            System.arraycopy(other.metered, 0, metered, 0, MOST_DROPS);
            washed = other.washed;
        }

        boolean hasDrop(int drop) {
            return drop >= 0 && drop < drops;
        }

        int how(Told told, int drop) {
            if (fate[drop] != WAITS) {
                return fate[drop];
            }
            return cargo.loaded(drop) < told.dropQuantity[drop] ? WAITS : ABOARD;
        }

        /** All of the quantity was loaded when it was unloaded, or it had not been aboard. */
        int shortOf(Told told, int drop) {
            return fate[drop] == DONE ? told.dropQuantity[drop] - metered[drop] : 0;
        }

        int waiting(Told told) {
            int count = 0;
            for (int d = 0; d < drops; d++) {
                if (how(told, d) == WAITS) {
                    count++;
                }
            }
            return count;
        }
    }

    /** The latest states, in a ring that forgets the oldest. */
    private static final class History {
        private final State[] rows = new State[MOST_UNDONE];
        private int next;
        int kept;

        History() {
            for (int i = 0; i < MOST_UNDONE; i++) {
                rows[i] = new State();
            }
        }

        void forget() {
            kept = 0;
        }

        void keep(State state) {
            rows[next].copyFrom(state);
            next = next + 1 < MOST_UNDONE ? next + 1 : 0;
            kept = Math.min(kept + 1, MOST_UNDONE);
        }

        boolean goBack(State state) {
            if (kept == 0) {
                return false;
            }
            next = next > 0 ? next - 1 : MOST_UNDONE - 1;
            kept--;
            state.copyFrom(rows[next]);
            return true;
        }
    }

    /** The orders of the drops that are aboard. Each fills a compartment, so they are five at most. */
    private static final class OrderTable {
        private int aboard;
        private final int[] drops = new int[MOST_COMPARTMENTS];
        private final int[] parts = new int[MOST_COMPARTMENTS];
        /** For each set of drops that are gone: in how many ways the others can go. */
        private final int[] ways = new int[1 << MOST_COMPARTMENTS];

        int count(Told told, Cargo cargo, int allDrops) {
            collect(told, cargo, allDrops);
            int all = (1 << aboard) - 1;
            for (int gone = all; gone >= 0; gone--) {
                // How the tanker stands ahead of the first drop does not matter.
                boolean reached = gone == 0 || cargo.standing(told, partsOfAll(gone)) == LAWFUL;
                if (!reached) {
                    ways[gone] = 0;
                } else {
                    ways[gone] = gone == all ? 1 : waysBehind(gone);
                }
            }
            return ways[0];
        }

        /** The k-th drop of the first order that was counted. */
        int dropOfFirst(int k) {
            if (k < 0 || k >= aboard || ways[0] == 0) {
                return NONE;
            }
            int gone = 0;
            int chosen = NONE;
            for (int step = 0; step <= k; step++) {
                chosen = leastBehind(gone);
                if (chosen == NONE) {
                    return NONE;
                }
                gone |= 1 << chosen;
            }
            return drops[chosen];
        }

        private void collect(Told told, Cargo cargo, int allDrops) {
            aboard = 0;
            for (int d = 0; d < allDrops && aboard < MOST_COMPARTMENTS; d++) {
                if (cargo.loaded(d) == told.dropQuantity[d]) {
                    drops[aboard] = d;
                    parts[aboard] = cargo.partsOf(d);
                    aboard++;
                }
            }
        }

        private int partsOfAll(int set) {
            int all = 0;
            for (int i = 0; i < aboard; i++) {
                if ((set >> i & 1) != 0) {
                    all |= parts[i];
                }
            }
            return all;
        }

        private int waysBehind(int gone) {
            int sum = 0;
            for (int i = 0; i < aboard; i++) {
                if ((gone >> i & 1) == 0) {
                    sum += ways[gone | 1 << i];
                }
            }
            return sum;
        }

        private int leastBehind(int gone) {
            for (int i = 0; i < aboard; i++) {
                if ((gone >> i & 1) == 0 && ways[gone | 1 << i] > 0) {
                    return i;
                }
            }
            return NONE;
        }
    }

    /** Finds the plan, and how many washes would do, by dealing the drops out to the compartments. */
    private static final class Planner {
        private final OrderTable table = new OrderTable();
        private final Cargo trial = new Cargo();
        private Told told;
        private State state;
        private boolean washing;
        private int waiting;
        private final int[] who = new int[MOST_WAITING];
        private final int[] lacked = new int[MOST_WAITING];
        private final int[] lack = new int[MOST_WAITING];
        /** What goes into the empty compartments from each number on. */
        private final int[] room = new int[MOST_COMPARTMENTS + 1];
        private int used;
        private int washed;
        private boolean found;
        private int bestWashed;
        int bestServed;
        int bestUsed;
        final int[] bestDrop = new int[MOST_COMPARTMENTS];
        final int[] bestAmount = new int[MOST_COMPARTMENTS];

        boolean findsPlan(Told ofTold, State ofState) {
            prepare(ofTold, ofState, false);
            deal(this, 0);
            return found;
        }

        /** NONE, if no washes would do. */
        int fewestWashes(Told ofTold, State ofState) {
            prepare(ofTold, ofState, true);
            deal(this, 0);
            return found ? bestWashed : NONE;
        }

        private void prepare(Told ofTold, State ofState, boolean forWashes) {
            told = ofTold;
            state = ofState;
            washing = forWashes;
            trial.copyFrom(state.cargo);
            used = 0;
            washed = 0;
            found = false;
            waiting = 0;
            for (int d = 0; d < state.drops && waiting < MOST_WAITING; d++) {
                if (state.how(told, d) == WAITS) {
                    who[waiting] = d;
                    lacked[waiting] = told.dropQuantity[d] - state.cargo.loaded(d);
                    lack[waiting] = lacked[waiting];
                    waiting++;
                }
            }
            room[told.compartments] = 0;
            for (int c = told.compartments - 1; c >= 0; c--) {
                room[c] = room[c + 1] + (trial.held[c] == 0 ? told.top(c) : 0);
            }
        }

        /** Tries all for the compartments from a number on, the least drop first, none behind all. */
        private static void deal(Planner p, int compartment) {
            if (p.isHopeless(compartment)) {
                return;
            }
            if (compartment >= p.told.compartments) {
                p.consider();
                return;
            }
            if (p.trial.held[compartment] == 0) {
                for (int i = 0; i < p.waiting; i++) {
                    if (p.gives(compartment, i)) {
                        deal(p, compartment + 1);
                        p.takeBack(compartment, i);
                    }
                }
            }
            deal(p, compartment + 1);
        }

        /** Behind the last compartment there is no room, so a drop served in part is hopeless there. */
        private boolean isHopeless(int compartment) {
            if (washing && found && washed >= bestWashed) {
                return true;
            }
            int owed = 0;
            for (int i = 0; i < waiting; i++) {
                if (washing || lack[i] < lacked[i]) {
                    owed += lack[i];
                }
            }
            return owed > room[compartment];
        }

        private boolean gives(int compartment, int i) {
            int amount = Math.min(told.top(compartment), lack[i]);
            if (amount == 0) {
                return false;
            }
            int liquid = told.dropLiquid[who[i]];
            boolean barred = told.isBarred(trial.last[compartment], liquid);
            if (barred && !washing) {
                return false;
            }
            trial.lay(told, compartment, who[i], liquid, amount);
            lack[i] -= amount;
            used++;
            washed += barred ? 1 : 0;
            return true;
        }

        private void takeBack(int compartment, int i) {
            int last = state.cargo.last[compartment];
            lack[i] += trial.held[compartment];
            trial.takeOut(compartment);
            trial.last[compartment] = last;
            used--;
            washed -= told.isBarred(last, told.dropLiquid[who[i]]) ? 1 : 0;
        }

        private void consider() {
            int served = 0;
            for (int i = 0; i < waiting; i++) {
                served += lack[i] == 0 ? 1 : 0;
            }
            if (isBetter(served) && trial.standing(told, 0) == LAWFUL && table.count(told, trial, state.drops) > 0) {
                found = true;
                bestWashed = washed;
                bestServed = served;
                bestUsed = used;
                keepDeal();
            }
        }

        /** Among equals the one that was dealt first stays: it gives the first compartments the least drops. */
        private boolean isBetter(int served) {
            return !found || washing || served > bestServed || served == bestServed && used < bestUsed;
        }

        private void keepDeal() {
            for (int c = 0; c < told.compartments; c++) {
                boolean given = state.cargo.held[c] == 0 && trial.held[c] > 0;
                bestDrop[c] = given ? trial.owner[c] : NONE;
                bestAmount[c] = given ? trial.held[c] : 0;
            }
        }
    }
}
