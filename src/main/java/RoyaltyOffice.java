import java.util.Arrays;

/**
 * An office that pays royalties of music: works with splits that change by days, covers and samples
 * that owe parts to other works, rights that are assigned to others until they revert, advances that
 * are recouped in their order, statements by periods, and what would be earned.
 */
public final class RoyaltyOffice {
    /** There is no such value. */
    public static final int NONE = -1;

    private static final int TEXT_BYTES = 900;
    private static final int FED_BYTES = 20;
    private static final int PAYEES = 10;
    private static final int WORKS = 12;
    private static final int ASSIGNMENTS = 16;
    private static final int ADVANCES = 12;
    private static final int SOURCES = 3;
    private static final int SPLITS = 4;
    private static final int SHARES = 4;
    // Each share of each work gives at most one line, and each assignment takes from one share alone.
    private static final int LINES = WORKS * SHARES + ASSIGNMENTS;
    private static final int STATEMENTS = 5;
    private static final int UNDOS = 5;
    private static final int COMMANDS = 30;
    private static final int COMMANDS_DONE = 40;
    private static final int REPEATS = 20;
    private static final int REPEAT_DEPTH = 2;
    private static final int LAST_DAY = 9999;
    private static final int GREATEST_LEAST = 99999;
    private static final int GREATEST_ADVANCE = 999999;
    private static final int GREATEST_NUMBER = 999999;
    private static final int GREATEST_INCOME = 9999999;
    private static final int GREATEST_MOST = 9999;
    private static final int GREATEST_SOURCE = 90;
    private static final int LETTERS = 8;
    private static final int DIGITS = 6;

    /** Columns of an assignment. */
    private static final int ASSIGNOR = 0;
    private static final int ASSIGNED_WORK = 1;
    private static final int ASSIGNEE = 2;
    private static final int ASSIGNED_PERCENT = 3;
    private static final int FIRST_DAY = 4;
    private static final int SECOND_DAY = 5;
    private static final int IN_FORCE = 6;

    /** Columns of an advance. */
    private static final int LENDER = 0;
    private static final int DEBTOR = 1;
    private static final int ADVANCED = 2;
    private static final int RATE = 3;
    private static final int ADVANCE_WORK = 4;
    private static final int OPEN = 5;

    /** Columns of a line of an income. */
    private static final int LINE_WORK = 0;
    private static final int LINE_PAYEE = 1;
    private static final int LINE_AMOUNT = 2;
    private static final int LINE_WITHHELD = 3;

    /** Columns of a payee's amounts; the period has the first three, a statement all. */
    private static final int EARNED = 0;
    private static final int WITHHELD = 1;
    private static final int RETURNED = 2;
    private static final int PAID = 3;
    private static final int CARRIED = 4;

    private final byte[] buffer;
    private int buffered;
    private final Tokens tokens;
    private final StatementReader statementReader;
    private final ScriptReader scriptReader;
    private final Script script;
    private final Division division;
    private final Report written;
    private final Office[] history;
    private int undoable;
    private final Office saved;
    private boolean isSaved;
    // A text is read into the spare office, which takes the place of the present one only without error.
    private Office spare;
    private Office office;

    /** Creates an office as if an empty text was read, with an empty buffer. */
    public RoyaltyOffice() {
        buffer = new byte[TEXT_BYTES];
        tokens = new Tokens();
        statementReader = new StatementReader(tokens);
        script = new Script();
        scriptReader = new ScriptReader(tokens, script);
        division = new Division();
        written = new Report();
        history = new Office[UNDOS];
        for (int i = 0; i < UNDOS; i++) {
            history[i] = new Office();
        }
        saved = new Office();
        spare = new Office();
        office = new Office();
    }

    // ---- texts

    public int feed(int a, int b, int c, int d, int e) throws IllegalStateException {
        if (buffered + FED_BYTES > TEXT_BYTES) {
            throw new IllegalStateException();
        }
        putFour(a);
        putFour(b);
        putFour(c);
        putFour(d);
        putFour(e);
        return buffered;
    }

    private void putFour(int four) {
        for (int shift = 24; shift >= 0; shift -= 8) {
            if (buffered < buffer.length) {
                buffer[buffered] = (byte) (four >> shift);
                buffered++;
            }
        }
    }

    public int truncate(int n) throws IllegalArgumentException {
        if (n < 0 || n > buffered) {
            throw new IllegalArgumentException();
        }
        buffered = n;
        return n;
    }

    public int readText() throws IllegalArgumentException {
        takeTokens();
        spare.empty();
        statementReader.readInto(spare);
        useSpare();
        undoable = 0;
        return office.catalogue.works;
    }

    public int amend() throws IllegalArgumentException {
        takeTokens();
        spare.copyFrom(office);
        int statements = statementReader.readInto(spare);
        remember();
        useSpare();
        return statements;
    }

    public int runScript() throws IllegalArgumentException {
        takeTokens();
        scriptReader.readFor(office.catalogue);
        remember();
        script.startOn(office, division);
        script.runCommands(0, script.commands.rows, 0);
        return script.done;
    }

    // The buffer is emptied here, ahead of the reading, because it is emptied also by a text with an error.
    private void takeTokens() {
        tokens.splitText(buffer, buffered);
        buffered = 0;
    }

    private void useSpare() {
        Office old = office;
        office = spare;
        spare = old;
    }

    public int errorCode() {
        return tokens.code;
    }

    public int errorPosition() {
        return tokens.position;
    }

    public int why() {
        return tokens.reason;
    }

    // ---- the office

    public int count(int what) throws IllegalArgumentException {
        switch (what) {
            case 0:
                return office.catalogue.payees;
            case 1:
                return office.catalogue.works;
            case 2:
                return office.assignments.rows;
            case 3:
                return office.advances.rows;
            case 4:
                return office.day;
            case 5:
                return office.ledger.keptStatements();
            case 6:
                return office.ledger.closed;
            default:
                throw new IllegalArgumentException();
        }
    }

    public int least(int payee) throws IndexOutOfBoundsException {
        requirePayee(payee);
        return office.catalogue.leastOf(payee);
    }

    public int splits(int work) throws IndexOutOfBoundsException {
        requireWork(work);
        return office.catalogue.splitCountOf(work);
    }

    public int splitOn(int work, int day) throws IndexOutOfBoundsException, IllegalArgumentException {
        requireWork(work);
        require(isDay(day));
        return office.catalogue.splitInForce(work, day);
    }

    public int share(int work, int split, int payee) throws IndexOutOfBoundsException {
        requireWork(work);
        requireRow(split, office.catalogue.splitCountOf(work));
        requirePayee(payee);
        return office.catalogue.percentOf(work, split, payee);
    }

    public int owners(int work) throws IndexOutOfBoundsException {
        requireWork(work);
        return office.catalogue.ownersOn(work, office.day);
    }

    public int sources(int work) throws IndexOutOfBoundsException {
        requireWork(work);
        return office.catalogue.sourceCountOf(work);
    }

    public int source(int work, int i, int what) throws IndexOutOfBoundsException, IllegalArgumentException {
        requireWork(work);
        requireRow(i, office.catalogue.sourceCountOf(work));
        require(what == 0 || what == 1);
        return what == 0 ? office.catalogue.sourceWork(work, i) : office.catalogue.sourcePercent(work, i);
    }

    public int roots(int work) throws IndexOutOfBoundsException {
        requireWork(work);
        return office.catalogue.rootsOf(work);
    }

    public int offspring(int work) throws IndexOutOfBoundsException {
        requireWork(work);
        return office.catalogue.offspringOf(work);
    }

    public int assignment(int assignment, int what) throws IndexOutOfBoundsException, IllegalArgumentException {
        requireRow(assignment, office.assignments.rows);
        require(what >= ASSIGNOR && what <= IN_FORCE);
        if (what == IN_FORCE) {
            return office.isInForce(assignment, office.day) ? 1 : 0;
        }
        return office.assignments.at(assignment, what);
    }

    public int left(int work, int payee) throws IndexOutOfBoundsException {
        requireWork(work);
        requirePayee(payee);
        return office.assignedOn(work, payee, office.day);
    }

    public int nextReversion() {
        return office.nextReversionDay();
    }

    public int revertingWithin(int days) throws IllegalArgumentException {
        require(isDay(days));
        return office.reversionsUpTo(office.day + days);
    }

    public int advance(int advance, int what) throws IndexOutOfBoundsException, IllegalArgumentException {
        requireRow(advance, office.advances.rows);
        require(what >= LENDER && what <= OPEN);
        return office.advances.at(advance, what);
    }

    public int owed(int payee) throws IndexOutOfBoundsException {
        requirePayee(payee);
        return office.owedBy(payee);
    }

    public int firstOpen(int payee) throws IndexOutOfBoundsException {
        requirePayee(payee);
        return office.firstOpenOf(payee);
    }

    // ---- accounts

    public long balance(int payee) throws IndexOutOfBoundsException {
        requirePayee(payee);
        return office.ledger.balanceOf(payee);
    }

    public long total(int payee, int what) throws IndexOutOfBoundsException, IllegalArgumentException {
        requirePayee(payee);
        require(what >= EARNED && what <= PAID);
        return office.ledger.totalOf(payee, what);
    }

    public long earnedFrom(int payee, int work) throws IndexOutOfBoundsException {
        requirePayee(payee);
        requireWork(work);
        return office.ledger.earnedOf(payee, work);
    }

    public long came(int work) throws IndexOutOfBoundsException {
        requireWork(work);
        return office.ledger.cameTo(work);
    }

    public int dearestWork() {
        return office.ledger.workWithMost();
    }

    public float part(int payee) throws IndexOutOfBoundsException {
        requirePayee(payee);
        long all = office.ledger.earnedByAll();
        if (all == 0) {
            return 0.0f;
        }
        return (float) office.ledger.totalOf(payee, EARNED) / (float) all;
    }

    public int richest() {
        return office.richestPayees();
    }

    public int payable() {
        return office.payablePayees();
    }

    // ---- the latest income

    public int lines() {
        return office.lines.rows;
    }

    public int line(int i, int what) throws IndexOutOfBoundsException, IllegalArgumentException {
        requireRow(i, office.lines.rows);
        require(what >= LINE_WORK && what <= LINE_WITHHELD);
        return office.lines.at(i, what);
    }

    // ---- statements

    public long statement(int i, int payee, int what) throws IndexOutOfBoundsException, IllegalArgumentException {
        requireRow(i, office.ledger.keptStatements());
        requirePayee(payee);
        require(what >= EARNED && what <= CARRIED);
        return office.ledger.stated(i, payee, what);
    }

    public int statementDay(int i) throws IndexOutOfBoundsException {
        requireRow(i, office.ledger.keptStatements());
        return office.ledger.statedOn(i);
    }

    public long current(int payee, int what) throws IndexOutOfBoundsException, IllegalArgumentException {
        requirePayee(payee);
        require(what >= EARNED && what <= RETURNED);
        return office.ledger.periodOf(payee, what);
    }

    // ---- what would be; nothing changes

    public int wouldCome(int work, int amount, int to) throws IndexOutOfBoundsException, IllegalArgumentException {
        requireWork(work);
        requireWork(to);
        require(isIncome(amount));
        division.prepare(office, office.day);
        division.divide(work, amount);
        return division.cameTo(to);
    }

    public int wouldEarn(int work, int amount, int payee) throws IndexOutOfBoundsException, IllegalArgumentException {
        requireWork(work);
        requirePayee(payee);
        require(isIncome(amount));
        return earningOn(work, amount, payee, office.day);
    }

    public int wouldGrow(int work, int amount, int payee) throws IndexOutOfBoundsException, IllegalArgumentException {
        requireWork(work);
        requirePayee(payee);
        require(isIncome(amount));
        division.prepare(office, office.day);
        division.divide(work, amount);
        division.withhold();
        return division.growthOf(payee);
    }

    public int amountToRecoup(int advance, int work, int most)
            throws IndexOutOfBoundsException, IllegalArgumentException {
        requireRow(advance, office.advances.rows);
        requireWork(work);
        require(most >= 1 && most <= GREATEST_MOST);
        int open = office.advances.at(advance, OPEN);
        if (open == 0) {
            return 0;
        }
        division.prepare(office, office.day);
        for (int amount = leastWithheld(open, office.advances.at(advance, RATE)); amount <= most; amount++) {
            division.divide(work, amount);
            division.withhold();
            if (division.openOf(advance) == 0) {
                return amount;
            }
        }
        return NONE;
    }

    // An advance can't withhold more than its rate of the whole income, so lesser amounts need no trial.
    // From there on all are tried: by rounding, a greater income can bring a payee less.
    private int leastWithheld(int open, int rate) {
        return rate > 0 ? (open * 100 + rate - 1) / rate : open;
    }

    public int wouldEarnOn(int work, int amount, int payee, int day)
            throws IndexOutOfBoundsException, IllegalArgumentException {
        requireWork(work);
        requirePayee(payee);
        require(isIncome(amount));
        require(day >= office.day && day <= LAST_DAY);
        return earningOn(work, amount, payee, day);
    }

    public int bestDay(int work, int amount, int payee) throws IndexOutOfBoundsException, IllegalArgumentException {
        requireWork(work);
        requirePayee(payee);
        require(isIncome(amount));
        int best = office.day;
        int most = earningOn(work, amount, payee, best);
        int day = office.nextChangeAfter(best);
        // Between two changes all days earn the same, so the first one of them stands for all.
        for (int i = 0; i <= LAST_DAY && day != NONE; i++) {
            int earning = earningOn(work, amount, payee, day);
            if (earning > most) {
                most = earning;
                best = day;
            }
            day = office.nextChangeAfter(day);
        }
        return best;
    }

    private int earningOn(int work, int amount, int payee, int day) {
        division.prepare(office, day);
        division.divide(work, amount);
        return division.earningOf(payee);
    }

    // ---- changes

    public int income(int work, int amount) throws IndexOutOfBoundsException, IllegalArgumentException {
        requireWork(work);
        require(isIncome(amount));
        remember();
        division.prepare(office, office.day);
        division.divide(work, amount);
        division.withhold();
        office.book(division);
        return office.lines.rows;
    }

    public int pass(int days) throws IllegalArgumentException {
        require(office.canPass(days));
        remember();
        office.day += days;
        return office.day;
    }

    public int revert(int assignment, int day) throws IndexOutOfBoundsException, IllegalArgumentException {
        requireRow(assignment, office.assignments.rows);
        require(office.canRevert(assignment, day));
        remember();
        int previous = office.assignments.at(assignment, SECOND_DAY);
        office.assignments.put(assignment, SECOND_DAY, day);
        return previous;
    }

    public int setLeast(int payee, int amount) throws IndexOutOfBoundsException, IllegalArgumentException {
        requirePayee(payee);
        require(isLeast(amount));
        remember();
        int previous = office.catalogue.leastOf(payee);
        office.catalogue.changeLeast(payee, amount);
        return previous;
    }

    public long close() {
        remember();
        return office.closePeriod();
    }

    // ---- reports, undo, a saved office

    public int report() {
        written.writeBalances(office);
        return written.length;
    }

    public int reportLines() {
        written.writeLines(office);
        return written.length;
    }

    public int reportByte(int i) throws IndexOutOfBoundsException {
        requireRow(i, written.length);
        return written.byteAt(i);
    }

    public int undo() {
        if (undoable <= 0 || undoable > UNDOS) {
            return NONE;
        }
        undoable--;
        Office undone = office;
        office = history[undoable];
        history[undoable] = undone;
        return undoable;
    }

    public int save() {
        saved.copyFrom(office);
        isSaved = true;
        return office.day;
    }

    public int restore() throws IllegalStateException {
        if (!isSaved) {
            throw new IllegalStateException();
        }
        office.copyFrom(saved);
        undoable = 0;
        return office.day;
    }

    // Keeps the office as it is ahead of a change; the rows of the oldest one kept are used again.
    private void remember() {
        if (undoable >= UNDOS) {
            Office oldest = history[0];
            for (int i = 1; i < UNDOS; i++) {
                history[i - 1] = history[i];
            }
            history[UNDOS - 1] = oldest;
            undoable = UNDOS - 1;
        }
        if (undoable >= 0) {
            history[undoable].copyFrom(office);
            undoable++;
        }
    }

    // ---- what calls demand

    private void requirePayee(int payee) {
        requireRow(payee, office.catalogue.payees);
    }

    private void requireWork(int work) {
        requireRow(work, office.catalogue.works);
    }

    private static void requireRow(int row, int rows) {
        if (row < 0 || row >= rows) {
            throw new IndexOutOfBoundsException();
        }
    }

    private static void require(boolean holds) {
        if (!holds) {
            throw new IllegalArgumentException();
        }
    }

    private static boolean isDay(int day) {
        return day >= 0 && day <= LAST_DAY;
    }

    private static boolean isIncome(int amount) {
        return amount >= 1 && amount <= GREATEST_INCOME;
    }

    private static boolean isLeast(int amount) {
        return amount >= 0 && amount <= GREATEST_LEAST;
    }

    /** The greatest income times 100 is an int still, so this can't wrap around. */
    private static int percent(int percentage, int amount) {
        return amount * percentage / 100;
    }

    /** Rows of numbers; a cell outside of them answers 0 and takes nothing, so that no index can fail. */
    private static final class Table {
        private final int width;
        private final int[] cells;
        int rows;

        Table(int capacity, int width) {
            this.width = width;
            this.cells = new int[Math.max(0, capacity * width)];
        }

        int at(int row, int column) {
            int i = row * width + column;
            return i >= 0 && i < cells.length ? cells[i] : 0;
        }

        void put(int row, int column, int value) {
            int i = row * width + column;
            if (i >= 0 && i < cells.length) {
                cells[i] = value;
            }
        }

        /** Adds a row of four numbers, if there is room for it. */
        void addFour(int first, int second, int third, int fourth) {
            int i = rows * width;
            if (width == 4 && i >= 0 && i + 3 < cells.length) {
                cells[i] = first;
                cells[i + 1] = second;
                cells[i + 2] = third;
                cells[i + 3] = fourth;
                rows++;
            }
        }

        void empty() {
            Arrays.fill(cells, 0);
            rows = 0;
        }

        void copyFrom(Table other) {
            System.arraycopy(other.cells, 0, cells, 0, Math.min(cells.length, other.cells.length));
            rows = other.rows;
        }
    }

    /** The tokens of a text, a place among them, and the first error. */
    private static final class Tokens {
        static final int END = 0;
        static final int INVALID = 1;
        static final int NAME = 2;
        static final int NUMBER = 3;
        static final int SEMICOLON = 4;
        static final int OPENING = 5;
        static final int CLOSING = 6;
        // From here on the quoted words, in the order of WORDS.
        static final int PAYEE = 7;
        static final int LEAST = 8;
        static final int WORK = 9;
        static final int COVER = 10;
        static final int OF = 11;
        static final int SAMPLE = 12;
        static final int IN = 13;
        static final int SPLIT = 14;
        static final int FROM = 15;
        static final int ASSIGN = 16;
        static final int TO = 17;
        static final int UNTIL = 18;
        static final int ADVANCE = 19;
        static final int RATE = 20;
        static final int ON = 21;
        static final int BY = 22;
        static final int INCOME = 23;
        static final int PASS = 24;
        static final int REVERT = 25;
        static final int CLOSE = 26;
        static final int REPEAT = 27;
        private static final int QUOTED = 21;
        private static final String WORDS = "payee least work cover of sample in split from assign to until advance rate on by income pass revert close repeat ";

        static final int NOT_ALLOWED = 1;
        static final int OUT_OF_RANGE = 2;
        static final int UNKNOWN = 3;
        static final int TAKEN = 4;
        static final int UNFIT = 5;
        static final int TOO_MANY = 6;

        private final long[] quoted = new long[QUOTED];
        private final int[] kinds = new int[TEXT_BYTES + 1];
        private final int[] starts = new int[TEXT_BYTES + 1];
        private final long[] values = new long[TEXT_BYTES + 1];
        private int size;
        private int place;
        int code;
        int position = NONE;
        int reason;

        Tokens() {
            int k = 0;
            long word = 0;
            for (int i = 0; i < WORDS.length(); i++) {
                char c = WORDS.charAt(i);
                if (c != ' ') {
                    word = withLetter(word, c);
                } else if (k < QUOTED) {
                    quoted[k] = word;
                    k++;
                    word = 0;
                }
            }
        }

        // A word is kept as a number, five bits a letter, so that reading a text makes no objects.
        private static long withLetter(long word, int letter) {
            return word * 32 + (letter - 'a' + 1);
        }

        void splitText(byte[] bytes, int length) {
            code = 0;
            position = NONE;
            reason = 0;
            size = 0;
            place = 0;
            int end = Math.min(length, bytes.length);
            int i = 0;
            for (int n = 0; n < TEXT_BYTES && i < end; n++) {
                if (bytes[i] == ' ' || bytes[i] == '\n') {
                    i++;
                } else {
                    i = splitToken(bytes, i, end);
                }
            }
            addToken(END, end, 0);
        }

        private int splitToken(byte[] bytes, int start, int end) {
            int c = start >= 0 && start < bytes.length ? bytes[start] : 0;
            if (isLetter(c)) {
                return splitWord(bytes, start, end);
            }
            if (isDigit(c)) {
                return splitNumber(bytes, start, end);
            }
            if (c == ';') {
                addToken(SEMICOLON, start, 0);
            } else if (c == '(') {
                addToken(OPENING, start, 0);
            } else if (c == ')') {
                addToken(CLOSING, start, 0);
            } else {
                addToken(INVALID, start, 0);
            }
            return start + 1;
        }

        private int splitWord(byte[] bytes, int start, int end) {
            long word = 0;
            int i = start;
            while (i < end && i < bytes.length && isLetter(bytes[i])) {
                word = withLetter(word, bytes[i]);
                i++;
            }
            addToken(i - start > LETTERS ? INVALID : wordKind(word), start, word);
            return i;
        }

        private int splitNumber(byte[] bytes, int start, int end) {
            long number = 0;
            int i = start;
            while (i < end && i < bytes.length && isDigit(bytes[i])) {
                number = number * 10 + (bytes[i] - '0');
                i++;
            }
            addToken(i - start > DIGITS ? INVALID : NUMBER, start, number);
            return i;
        }

        private int wordKind(long word) {
            for (int k = 0; k < QUOTED; k++) {
                if (quoted[k] == word) {
                    return PAYEE + k;
                }
            }
            return NAME;
        }

        private void addToken(int kind, int start, long value) {
            if (size < kinds.length) {
                kinds[size] = kind;
                starts[size] = start;
                values[size] = value;
                size++;
            }
        }

        private static boolean isLetter(int c) {
            return c >= 'a' && c <= 'z';
        }

        private static boolean isDigit(int c) {
            return c >= '0' && c <= '9';
        }

        int kind() {
            return place >= 0 && place < size ? kinds[place] : END;
        }

        void skip() {
            if (place < size - 1) {
                place++;
            }
        }

        /** Takes a token of this kind. */
        void take(int kind) {
            if (kind() != kind) {
                fail(NOT_ALLOWED);
            }
            skip();
        }

        int takeNumber(int lowest, int highest) {
            if (kind() != NUMBER) {
                fail(NOT_ALLOWED);
            }
            int number = (int) valueHere();
            if (number < lowest || number > highest) {
                fail(OUT_OF_RANGE);
            }
            skip();
            return number;
        }

        /** Looks at a name, and leaves it there: other errors can be at the same token. */
        long nameHere() {
            if (kind() != NAME) {
                fail(NOT_ALLOWED);
            }
            return valueHere();
        }

        private long valueHere() {
            return place >= 0 && place < size ? values[place] : 0;
        }

        /** Ends a statement, with the reason why it does not fit, or 0. */
        void takeSemicolon(int unfit) {
            if (kind() != SEMICOLON) {
                fail(NOT_ALLOWED);
            }
            if (unfit != 0) {
                reason = unfit;
                fail(UNFIT);
            }
            skip();
        }

        void fail(int error) {
            code = error;
            position = place >= 0 && place < size ? starts[place] : 0;
            throw new IllegalArgumentException();
        }
    }

    /** The payees, and the works with their sources and their splits. */
    private static final class Catalogue {
        private static final int SOURCE_WORK = 0;
        private static final int SOURCE_PERCENT = 1;
        private static final int SPLIT_DAY = 0;
        private static final int SPLIT_SHARES = 1;
        static final int SHARE_PAYEE = 0;
        static final int SHARE_PERCENT = 1;

        int payees;
        int works;
        private final long[] payeeNames = new long[PAYEES];
        private final int[] leasts = new int[PAYEES];
        private final long[] workNames = new long[WORKS];
        private final int[] sourceCounts = new int[WORKS];
        private final int[] splitCounts = new int[WORKS];
        private final Table sources = new Table(WORKS * SOURCES, 2);
        private final Table splits = new Table(WORKS * SPLITS, 2);
        private final Table shares = new Table(WORKS * SPLITS * SHARES, 2);

        void empty() {
            payees = 0;
            works = 0;
            Arrays.fill(payeeNames, 0);
            Arrays.fill(leasts, 0);
            Arrays.fill(workNames, 0);
            Arrays.fill(sourceCounts, 0);
            Arrays.fill(splitCounts, 0);
            sources.empty();
            splits.empty();
            shares.empty();
        }

        void copyFrom(Catalogue other) {
            payees = other.payees;
            works = other.works;
            System.arraycopy(other.payeeNames, 0, payeeNames, 0, PAYEES);
            System.arraycopy(other.leasts, 0, leasts, 0, PAYEES);
            System.arraycopy(other.workNames, 0, workNames, 0, WORKS);
            System.arraycopy(other.sourceCounts, 0, sourceCounts, 0, WORKS);
            System.arraycopy(other.splitCounts, 0, splitCounts, 0, WORKS);
            sources.copyFrom(other.sources);
            splits.copyFrom(other.splits);
            shares.copyFrom(other.shares);
        }

        private boolean isPayee(int payee) {
            return payee >= 0 && payee < payees && payee < PAYEES;
        }

        private boolean isWork(int work) {
            return work >= 0 && work < works && work < WORKS;
        }

        int payeeNamed(long name) {
            for (int p = 0; p < payees && p < PAYEES; p++) {
                if (payeeNames[p] == name) {
                    return p;
                }
            }
            return NONE;
        }

        int workNamed(long name) {
            for (int w = 0; w < works && w < WORKS; w++) {
                if (workNames[w] == name) {
                    return w;
                }
            }
            return NONE;
        }

        boolean isTaken(long name) {
            return payeeNamed(name) != NONE || workNamed(name) != NONE;
        }

        void addPayee(long name, int least) {
            if (payees < PAYEES) {
                payeeNames[payees] = name;
                leasts[payees] = least;
                payees++;
            }
        }

        /** Adds a work without sources, with these shares from day 0 on. */
        void addWork(long name, Table newShares) {
            if (works < WORKS) {
                workNames[works] = name;
                works++;
                addSplit(works - 1, 0, newShares);
            }
        }

        void addSource(int work, int source, int percentage) {
            if (isWork(work) && sourceCounts[work] < SOURCES) {
                int row = work * SOURCES + sourceCounts[work];
                sources.put(row, SOURCE_WORK, source);
                sources.put(row, SOURCE_PERCENT, percentage);
                sourceCounts[work]++;
            }
        }

        void addSplit(int work, int day, Table newShares) {
            if (isWork(work) && splitCounts[work] < SPLITS) {
                int row = work * SPLITS + splitCounts[work];
                splits.put(row, SPLIT_DAY, day);
                splits.put(row, SPLIT_SHARES, newShares.rows);
                for (int k = 0; k < newShares.rows && k < SHARES; k++) {
                    shares.put(row * SHARES + k, SHARE_PAYEE, newShares.at(k, SHARE_PAYEE));
                    shares.put(row * SHARES + k, SHARE_PERCENT, newShares.at(k, SHARE_PERCENT));
                }
                splitCounts[work]++;
            }
        }

        long payeeName(int payee) {
            return isPayee(payee) ? payeeNames[payee] : 0;
        }

        long workName(int work) {
            return isWork(work) ? workNames[work] : 0;
        }

        int leastOf(int payee) {
            return isPayee(payee) ? leasts[payee] : 0;
        }

        void changeLeast(int payee, int amount) {
            if (isPayee(payee)) {
                leasts[payee] = amount;
            }
        }

        int sourceCountOf(int work) {
            return isWork(work) ? sourceCounts[work] : 0;
        }

        int sourceWork(int work, int i) {
            return sources.at(work * SOURCES + i, SOURCE_WORK);
        }

        int sourcePercent(int work, int i) {
            return sources.at(work * SOURCES + i, SOURCE_PERCENT);
        }

        int sourcePercents(int work) {
            int sum = 0;
            for (int i = 0; i < sourceCountOf(work); i++) {
                sum += sourcePercent(work, i);
            }
            return sum;
        }

        int sourceSet(int work) {
            int set = 0;
            for (int i = 0; i < sourceCountOf(work); i++) {
                set |= 1 << sourceWork(work, i);
            }
            return set;
        }

        /** A work's sources have lower numbers, so one way down finds the sources of sources too. */
        int rootsOf(int work) {
            int set = sourceSet(work);
            for (int w = work - 1; w >= 0; w--) {
                if ((set >> w & 1) != 0) {
                    set |= sourceSet(w);
                }
            }
            return set;
        }

        int offspringOf(int work) {
            int set = 0;
            for (int w = work + 1; w < works; w++) {
                if ((rootsOf(w) >> work & 1) != 0) {
                    set |= 1 << w;
                }
            }
            return set;
        }

        int splitCountOf(int work) {
            return isWork(work) ? splitCounts[work] : 0;
        }

        int splitDay(int work, int split) {
            return splits.at(work * SPLITS + split, SPLIT_DAY);
        }

        int splitInForce(int work, int day) {
            int inForce = 0;
            for (int split = 1; split < splitCountOf(work); split++) {
                if (splitDay(work, split) <= day) {
                    inForce = split;
                }
            }
            return inForce;
        }

        int shareCountOf(int work, int split) {
            return splits.at(work * SPLITS + split, SPLIT_SHARES);
        }

        int sharePayee(int work, int split, int k) {
            return shares.at((work * SPLITS + split) * SHARES + k, SHARE_PAYEE);
        }

        int sharePercent(int work, int split, int k) {
            return shares.at((work * SPLITS + split) * SHARES + k, SHARE_PERCENT);
        }

        int percentOf(int work, int split, int payee) {
            for (int k = 0; k < shareCountOf(work, split); k++) {
                if (sharePayee(work, split, k) == payee) {
                    return sharePercent(work, split, k);
                }
            }
            return 0;
        }

        int ownersOn(int work, int day) {
            int split = splitInForce(work, day);
            int set = 0;
            for (int k = 0; k < shareCountOf(work, split); k++) {
                set |= 1 << sharePayee(work, split, k);
            }
            return set;
        }
    }

    /** What came, what was earned, withheld, returned and paid, and the statements. */
    private static final class Ledger {
        private final long[] balances = new long[PAYEES];
        private final long[] totals = new long[PAYEES * CARRIED];
        private final long[] period = new long[PAYEES * PAID];
        private final long[] earnings = new long[PAYEES * WORKS];
        private final long[] comings = new long[WORKS];
        // Statement number n stands in row n modulo STATEMENTS.
        private final long[] statements = new long[STATEMENTS * PAYEES * (CARRIED + 1)];
        private final int[] statementDays = new int[STATEMENTS];
        int closed;

        void empty() {
            Arrays.fill(balances, 0);
            Arrays.fill(totals, 0);
            Arrays.fill(period, 0);
            Arrays.fill(earnings, 0);
            Arrays.fill(comings, 0);
            Arrays.fill(statements, 0);
            Arrays.fill(statementDays, 0);
            closed = 0;
        }

        void copyFrom(Ledger other) {
            System.arraycopy(other.balances, 0, balances, 0, balances.length);
            System.arraycopy(other.totals, 0, totals, 0, totals.length);
            System.arraycopy(other.period, 0, period, 0, period.length);
            System.arraycopy(other.earnings, 0, earnings, 0, earnings.length);
            System.arraycopy(other.comings, 0, comings, 0, comings.length);
            System.arraycopy(other.statements, 0, statements, 0, statements.length);
            System.arraycopy(other.statementDays, 0, statementDays, 0, STATEMENTS);
            closed = other.closed;
        }

        private static long cell(long[] cells, int i) {
            return i >= 0 && i < cells.length ? cells[i] : 0;
        }

        private static void add(long[] cells, int i, long amount) {
            if (i >= 0 && i < cells.length) {
                cells[i] += amount;
            }
        }

        private void addFor(int payee, int what, long amount) {
            add(totals, payee * CARRIED + what, amount);
            add(period, payee * PAID + what, amount);
        }

        void bookComing(int work, int amount) {
            add(comings, work, amount);
        }

        void bookEarning(int payee, int work, int amount, int withheld) {
            addFor(payee, EARNED, amount);
            addFor(payee, WITHHELD, withheld);
            add(earnings, payee * WORKS + work, amount);
            add(balances, payee, amount - withheld);
        }

        void bookReturn(int payee, int amount) {
            addFor(payee, RETURNED, amount);
            add(balances, payee, amount);
        }

        /** Whether a payee with this balance is paid when the period is closed. */
        static boolean isPaid(long balance, int least) {
            return balance > 0 && balance >= least;
        }

        /** Makes a statement's rows for one payee; answers what is paid to it. */
        long settle(int payee, int least) {
            long balance = balanceOf(payee);
            long paid = isPaid(balance, least) ? balance : 0;
            add(totals, payee * CARRIED + PAID, paid);
            add(balances, payee, -paid);
            for (int what = EARNED; what <= RETURNED; what++) {
                state(payee, what, periodOf(payee, what));
            }
            state(payee, PAID, paid);
            state(payee, CARRIED, balance - paid);
            return paid;
        }

        private void state(int payee, int what, long amount) {
            int i = statementCell(closed, payee, what);
            if (i >= 0 && i < statements.length) {
                statements[i] = amount;
            }
        }

        /** Ends the statement, and begins a new period. */
        void beginPeriod(int day) {
            int row = closed % STATEMENTS;
            if (row >= 0) {
                statementDays[row] = day;
            }
            Arrays.fill(period, 0);
            closed++;
        }

        private static int statementCell(int number, int payee, int what) {
            return (number % STATEMENTS * PAYEES + payee) * (CARRIED + 1) + what;
        }

        int keptStatements() {
            return Math.min(closed, STATEMENTS);
        }

        long stated(int i, int payee, int what) {
            return cell(statements, statementCell(closed - 1 - i, payee, what));
        }

        int statedOn(int i) {
            int row = (closed - 1 - i) % STATEMENTS;
            return row >= 0 ? statementDays[row] : 0;
        }

        long balanceOf(int payee) {
            return cell(balances, payee);
        }

        long totalOf(int payee, int what) {
            return cell(totals, payee * CARRIED + what);
        }

        long periodOf(int payee, int what) {
            return cell(period, payee * PAID + what);
        }

        long earnedOf(int payee, int work) {
            return cell(earnings, payee * WORKS + work);
        }

        long cameTo(int work) {
            return cell(comings, work);
        }

        long earnedByAll() {
            long sum = 0;
            for (int p = 0; p < PAYEES; p++) {
                sum += totalOf(p, EARNED);
            }
            return sum;
        }

        int workWithMost() {
            int dearest = NONE;
            long most = 0;
            for (int w = 0; w < WORKS; w++) {
                if (comings[w] > most) {
                    most = comings[w];
                    dearest = w;
                }
            }
            return dearest;
        }
    }

    /** All that is saved, restored and undone. */
    private static final class Office {
        int day;
        final Catalogue catalogue = new Catalogue();
        final Table assignments = new Table(ASSIGNMENTS, SECOND_DAY + 1);
        final Table advances = new Table(ADVANCES, OPEN + 1);
        final Table lines = new Table(LINES, LINE_WITHHELD + 1);
        final Ledger ledger = new Ledger();

        void empty() {
            day = 0;
            catalogue.empty();
            assignments.empty();
            advances.empty();
            lines.empty();
            ledger.empty();
        }

        void copyFrom(Office other) {
            day = other.day;
            catalogue.copyFrom(other.catalogue);
            assignments.copyFrom(other.assignments);
            advances.copyFrom(other.advances);
            lines.copyFrom(other.lines);
            ledger.copyFrom(other.ledger);
        }

        boolean isInForce(int assignment, int onDay) {
            return assignments.at(assignment, FIRST_DAY) <= onDay && onDay < assignments.at(assignment, SECOND_DAY);
        }

        private boolean isOf(int assignment, int work, int payee) {
            return assignments.at(assignment, ASSIGNED_WORK) == work && assignments.at(assignment, ASSIGNOR) == payee;
        }

        /** The percentage of its shares of a work that a payee leaves on a day. */
        int assignedOn(int work, int payee, int onDay) {
            int sum = 0;
            for (int a = 0; a < assignments.rows; a++) {
                if (isOf(a, work, payee) && isInForce(a, onDay)) {
                    sum += assignments.at(a, ASSIGNED_PERCENT);
                }
            }
            return sum;
        }

        /** The most that a payee leaves on a day from the first to ahead of the second one. */
        int mostAssigned(int work, int payee, int first, int second) {
            int most = assignedOn(work, payee, first);
            // The sum grows only on first days of assignments.
            for (int a = 0; a < assignments.rows; a++) {
                int start = assignments.at(a, FIRST_DAY);
                if (start > first && start < second) {
                    most = Math.max(most, assignedOn(work, payee, start));
                }
            }
            return most;
        }

        int nextReversionDay() {
            int next = NONE;
            for (int a = 0; a < assignments.rows; a++) {
                next = earlierAfter(day, assignments.at(a, SECOND_DAY), next);
            }
            return next;
        }

        int reversionsUpTo(int lastDay) {
            int reversions = 0;
            for (int a = 0; a < assignments.rows; a++) {
                int second = assignments.at(a, SECOND_DAY);
                if (second > day && second <= lastDay) {
                    reversions++;
                }
            }
            return reversions;
        }

        /** The first day after this one on which a split or an assignment begins or ends; NONE without one. */
        int nextChangeAfter(int thisDay) {
            int next = NONE;
            for (int w = 0; w < catalogue.works; w++) {
                for (int split = 1; split < catalogue.splitCountOf(w); split++) {
                    next = earlierAfter(thisDay, catalogue.splitDay(w, split), next);
                }
            }
            for (int a = 0; a < assignments.rows; a++) {
                next = earlierAfter(thisDay, assignments.at(a, FIRST_DAY), next);
                next = earlierAfter(thisDay, assignments.at(a, SECOND_DAY), next);
            }
            return next;
        }

        private static int earlierAfter(int thisDay, int candidate, int next) {
            return candidate > thisDay && (next == NONE || candidate < next) ? candidate : next;
        }

        int owedBy(int payee) {
            int sum = 0;
            for (int a = 0; a < advances.rows; a++) {
                if (advances.at(a, DEBTOR) == payee) {
                    sum += advances.at(a, OPEN);
                }
            }
            return sum;
        }

        int firstOpenOf(int payee) {
            for (int a = 0; a < advances.rows; a++) {
                if (advances.at(a, DEBTOR) == payee && advances.at(a, OPEN) > 0) {
                    return a;
                }
            }
            return NONE;
        }

        int richestPayees() {
            int set = 0;
            long most = -1;
            for (int p = 0; p < catalogue.payees; p++) {
                long balance = ledger.balanceOf(p);
                if (balance > most) {
                    most = balance;
                    set = 0;
                }
                if (balance == most) {
                    set |= 1 << p;
                }
            }
            return set;
        }

        int payablePayees() {
            int set = 0;
            for (int p = 0; p < catalogue.payees; p++) {
                if (Ledger.isPaid(ledger.balanceOf(p), catalogue.leastOf(p))) {
                    set |= 1 << p;
                }
            }
            return set;
        }

        boolean canPass(int days) {
            return isDay(days) && day + days <= LAST_DAY;
        }

        boolean canRevert(int assignment, int newDay) {
            return newDay >= day && newDay < assignments.at(assignment, SECOND_DAY)
                    && newDay > assignments.at(assignment, FIRST_DAY);
        }

        long closePeriod() {
            long paid = 0;
            // Rows of payees that are not defined yet are settled too, so that an old statement leaves nothing there.
            for (int p = 0; p < PAYEES; p++) {
                paid += ledger.settle(p, catalogue.leastOf(p));
            }
            ledger.beginPeriod(day);
            return paid;
        }

        /** Books an income that was divided among payees, and of which advances withheld their parts. */
        void book(Division division) {
            for (int w = 0; w < catalogue.works; w++) {
                ledger.bookComing(w, division.cameTo(w));
            }
            lines.copyFrom(division.lines);
            for (int i = 0; i < lines.rows; i++) {
                ledger.bookEarning(lines.at(i, LINE_PAYEE), lines.at(i, LINE_WORK), lines.at(i, LINE_AMOUNT),
                        lines.at(i, LINE_WITHHELD));
            }
            for (int p = 0; p < catalogue.payees; p++) {
                ledger.bookReturn(p, division.returnedTo(p));
            }
            for (int a = 0; a < advances.rows; a++) {
                advances.put(a, OPEN, division.openOf(a));
            }
        }
    }

    /** How an income is divided on a day; the office itself is not changed. */
    private static final class Division {
        private final int[] splits = new int[WORKS];
        // For each work and payee the assignments in force, as a set.
        private final int[] rights = new int[WORKS * PAYEES];
        private final int[] debts = new int[PAYEES];
        private final int[] comings = new int[WORKS];
        private final int[] open = new int[ADVANCES];
        private final int[] returned = new int[PAYEES];
        final Table lines = new Table(LINES, LINE_WITHHELD + 1);
        private Catalogue catalogue;
        private Table assignments;
        private Table advances;

        // What is the same for all amounts is sought once here: amountToRecoup() divides thousands of them.
        void prepare(Office office, int day) {
            catalogue = office.catalogue;
            assignments = office.assignments;
            advances = office.advances;
            for (int w = 0; w < WORKS; w++) {
                splits[w] = catalogue.splitInForce(w, day);
            }
            Arrays.fill(rights, 0);
            for (int a = 0; a < assignments.rows; a++) {
                if (office.isInForce(a, day)) {
                    int right = assignments.at(a, ASSIGNED_WORK) * PAYEES + assignments.at(a, ASSIGNOR);
                    addTo(rights, right, 1 << a);
                }
            }
            Arrays.fill(debts, 0);
            for (int a = 0; a < advances.rows; a++) {
                addTo(debts, advances.at(a, DEBTOR), 1 << a);
            }
        }

        private static int cell(int[] cells, int i) {
            return i >= 0 && i < cells.length ? cells[i] : 0;
        }

        private static void addTo(int[] cells, int i, int amount) {
            if (i >= 0 && i < cells.length) {
                cells[i] += amount;
            }
        }

        void divide(int work, int amount) {
            Arrays.fill(comings, 0);
            lines.rows = 0;
            addTo(comings, work, amount);
            for (int w = Math.min(work, WORKS - 1); w >= 0; w--) {
                if (comings[w] > 0) {
                    divideShares(w, comings[w] - paySources(w, comings[w]));
                }
            }
        }

        private int paySources(int work, int amount) {
            int paid = 0;
            int sources = catalogue == null ? 0 : catalogue.sourceCountOf(work);
            for (int i = 0; i < sources; i++) {
                int part = percent(catalogue.sourcePercent(work, i), amount);
                addTo(comings, catalogue.sourceWork(work, i), part);
                paid += part;
            }
            return paid;
        }

        private void divideShares(int work, int amount) {
            if (catalogue == null) {
                return;
            }
            int split = cell(splits, work);
            int shares = catalogue.shareCountOf(work, split);
            int cents = amount;
            for (int k = 0; k < shares; k++) {
                cents -= percent(catalogue.sharePercent(work, split, k), amount);
            }
            for (int k = 0; k < shares; k++) {
                int part = percent(catalogue.sharePercent(work, split, k), amount) + (k < cents ? 1 : 0);
                if (part > 0) {
                    payShare(work, catalogue.sharePayee(work, split, k), part);
                }
            }
        }

        private void payShare(int work, int payee, int part) {
            int left = part;
            int set = cell(rights, work * PAYEES + payee);
            for (int a = 0; a < ASSIGNMENTS && set >> a != 0 && assignments != null; a++) {
                if ((set >> a & 1) != 0) {
                    int given = percent(assignments.at(a, ASSIGNED_PERCENT), part);
                    if (given > 0) {
                        lines.addFour(work, assignments.at(a, ASSIGNEE), given, 0);
                    }
                    left -= given;
                }
            }
            if (left > 0) {
                lines.addFour(work, payee, left, 0);
            }
        }

        /** Lets the advances withhold from the lines. */
        void withhold() {
            Arrays.fill(returned, 0);
            for (int a = 0; a < ADVANCES; a++) {
                open[a] = advances == null ? 0 : advances.at(a, OPEN);
            }
            for (int i = 0; i < lines.rows; i++) {
                int set = cell(debts, lines.at(i, LINE_PAYEE));
                if (set != 0) {
                    withholdFrom(i, set);
                }
            }
        }

        private void withholdFrom(int line, int set) {
            int left = lines.at(line, LINE_AMOUNT);
            for (int a = 0; a < ADVANCES && set >> a != 0 && advances != null; a++) {
                int onWork = advances.at(a, ADVANCE_WORK);
                boolean concerned = onWork == NONE || onWork == lines.at(line, LINE_WORK);
                if ((set >> a & 1) != 0 && concerned) {
                    int kept = Math.min(percent(advances.at(a, RATE), left), open[a]);
                    open[a] -= kept;
                    left -= kept;
                    addTo(returned, advances.at(a, LENDER), kept);
                }
            }
            lines.put(line, LINE_WITHHELD, lines.at(line, LINE_AMOUNT) - left);
        }

        int cameTo(int work) {
            return cell(comings, work);
        }

        int openOf(int advance) {
            return cell(open, advance);
        }

        int returnedTo(int payee) {
            return cell(returned, payee);
        }

        int earningOf(int payee) {
            int sum = 0;
            for (int i = 0; i < lines.rows; i++) {
                if (lines.at(i, LINE_PAYEE) == payee) {
                    sum += lines.at(i, LINE_AMOUNT);
                }
            }
            return sum;
        }

        int growthOf(int payee) {
            int sum = returnedTo(payee);
            for (int i = 0; i < lines.rows; i++) {
                if (lines.at(i, LINE_PAYEE) == payee) {
                    sum += lines.at(i, LINE_AMOUNT) - lines.at(i, LINE_WITHHELD);
                }
            }
            return sum;
        }
    }

    /** Reads the statements of a text into an office; at an error, what it read till then stands there. */
    private static final class StatementReader {
        private final Tokens tokens;
        private final Table shares = new Table(SHARES, 2);
        private Office into;
        private Catalogue catalogue;

        StatementReader(Tokens tokens) {
            this.tokens = tokens;
        }

        /** Answers the number of statements. */
        int readInto(Office office) {
            into = office;
            catalogue = office.catalogue;
            int statements = 0;
            while (statements < TEXT_BYTES && tokens.kind() != Tokens.END) {
                readStatement(tokens.kind());
                statements++;
            }
            return statements;
        }

        private void readStatement(int kind) {
            switch (kind) {
                case Tokens.PAYEE:
                    readPayee();
                    break;
                case Tokens.WORK:
                    readWork();
                    break;
                case Tokens.COVER:
                    readCover();
                    break;
                case Tokens.SAMPLE:
                    readSample();
                    break;
                case Tokens.SPLIT:
                    readSplit();
                    break;
                case Tokens.ASSIGN:
                    readAssignment();
                    break;
                case Tokens.ADVANCE:
                    readAdvance();
                    break;
                default:
                    tokens.fail(Tokens.NOT_ALLOWED);
            }
        }

        private void readPayee() {
            takeFirstWord(catalogue.payees, PAYEES);
            long name = takeNewName();
            int least = 0;
            if (tokens.kind() == Tokens.LEAST) {
                tokens.skip();
                least = tokens.takeNumber(0, GREATEST_LEAST);
            }
            tokens.takeSemicolon(0);
            catalogue.addPayee(name, least);
        }

        private void readWork() {
            takeFirstWord(catalogue.works, WORKS);
            long name = takeNewName();
            readShares();
            tokens.takeSemicolon(sharesUnfit());
            catalogue.addWork(name, shares);
        }

        private void readCover() {
            takeFirstWord(catalogue.works, WORKS);
            long name = takeNewName();
            tokens.take(Tokens.OF);
            int covered = takeWork();
            int percentage = tokens.takeNumber(1, GREATEST_SOURCE);
            readShares();
            tokens.takeSemicolon(sharesUnfit());
            catalogue.addWork(name, shares);
            catalogue.addSource(catalogue.works - 1, covered, percentage);
        }

        private void readSample() {
            tokens.skip();
            int source = takeWork();
            tokens.take(Tokens.IN);
            int work = takeWorkWithRoom(true);
            int percentage = tokens.takeNumber(1, GREATEST_SOURCE);
            int unfit = 0;
            if (source >= work || (catalogue.sourceSet(work) >> source & 1) != 0) {
                unfit = 3;
            } else if (catalogue.sourcePercents(work) + percentage > GREATEST_SOURCE) {
                unfit = 4;
            }
            tokens.takeSemicolon(unfit);
            catalogue.addSource(work, source, percentage);
        }

        private void readSplit() {
            tokens.skip();
            int work = takeWorkWithRoom(false);
            tokens.take(Tokens.FROM);
            int day = tokens.takeNumber(1, LAST_DAY);
            readShares();
            int unfit = sharesUnfit();
            if (unfit == 0 && day <= catalogue.splitDay(work, catalogue.splitCountOf(work) - 1)) {
                unfit = 2;
            }
            tokens.takeSemicolon(unfit);
            catalogue.addSplit(work, day, shares);
        }

        private void readAssignment() {
            Table assignments = into.assignments;
            takeFirstWord(assignments.rows, ASSIGNMENTS);
            int assignor = takePayee();
            tokens.take(Tokens.IN);
            int work = takeWork();
            tokens.take(Tokens.TO);
            int assignee = takePayee();
            int percentage = tokens.takeNumber(1, 100);
            tokens.take(Tokens.FROM);
            int first = tokens.takeNumber(0, LAST_DAY);
            tokens.take(Tokens.UNTIL);
            int second = tokens.takeNumber(1, LAST_DAY);
            int unfit = 0;
            if (assignor == assignee || second <= first) {
                unfit = 5;
            } else if (into.mostAssigned(work, assignor, first, second) + percentage > 100) {
                unfit = 6;
            }
            tokens.takeSemicolon(unfit);
            int row = assignments.rows;
            assignments.put(row, ASSIGNOR, assignor);
            assignments.put(row, ASSIGNED_WORK, work);
            assignments.put(row, ASSIGNEE, assignee);
            assignments.put(row, ASSIGNED_PERCENT, percentage);
            assignments.put(row, FIRST_DAY, first);
            assignments.put(row, SECOND_DAY, second);
            assignments.rows++;
        }

        private void readAdvance() {
            Table advances = into.advances;
            takeFirstWord(advances.rows, ADVANCES);
            int lender = takePayee();
            int amount = tokens.takeNumber(1, GREATEST_ADVANCE);
            tokens.take(Tokens.TO);
            int debtor = takePayee();
            tokens.take(Tokens.RATE);
            int rate = tokens.takeNumber(1, 100);
            int work = NONE;
            if (tokens.kind() == Tokens.ON) {
                tokens.skip();
                work = takeWork();
            }
            tokens.takeSemicolon(lender == debtor ? 7 : 0);
            int row = advances.rows;
            advances.put(row, LENDER, lender);
            advances.put(row, DEBTOR, debtor);
            advances.put(row, ADVANCED, amount);
            advances.put(row, RATE, rate);
            advances.put(row, ADVANCE_WORK, work);
            advances.put(row, OPEN, amount);
            advances.rows++;
        }

        private void takeFirstWord(int defined, int capacity) {
            if (defined >= capacity) {
                tokens.fail(Tokens.TOO_MANY);
            }
            tokens.skip();
        }

        private long takeNewName() {
            long name = tokens.nameHere();
            if (catalogue.isTaken(name)) {
                tokens.fail(Tokens.TAKEN);
            }
            tokens.skip();
            return name;
        }

        private int takePayee() {
            int payee = catalogue.payeeNamed(tokens.nameHere());
            if (payee == NONE) {
                tokens.fail(Tokens.UNKNOWN);
            }
            tokens.skip();
            return payee;
        }

        private int takeWork() {
            int work = catalogue.workNamed(tokens.nameHere());
            if (work == NONE) {
                tokens.fail(Tokens.UNKNOWN);
            }
            tokens.skip();
            return work;
        }

        /** Takes the name of a work that can have one more source, or one more split. */
        private int takeWorkWithRoom(boolean forSource) {
            int work = catalogue.workNamed(tokens.nameHere());
            if (work == NONE) {
                tokens.fail(Tokens.UNKNOWN);
            }
            if (forSource ? catalogue.sourceCountOf(work) >= SOURCES : catalogue.splitCountOf(work) >= SPLITS) {
                tokens.fail(Tokens.TOO_MANY);
            }
            tokens.skip();
            return work;
        }

        private void readShares() {
            tokens.take(Tokens.BY);
            shares.rows = 0;
            readShare();
            for (int k = 0; k < SHARES && tokens.kind() == Tokens.NAME; k++) {
                readShare();
            }
        }

        private void readShare() {
            int payee = catalogue.payeeNamed(tokens.nameHere());
            if (payee == NONE) {
                tokens.fail(Tokens.UNKNOWN);
            }
            for (int k = 0; k < shares.rows; k++) {
                if (shares.at(k, Catalogue.SHARE_PAYEE) == payee) {
                    tokens.fail(Tokens.TAKEN);
                }
            }
            if (shares.rows >= SHARES) {
                tokens.fail(Tokens.TOO_MANY);
            }
            tokens.skip();
            shares.put(shares.rows, Catalogue.SHARE_PAYEE, payee);
            shares.put(shares.rows, Catalogue.SHARE_PERCENT, tokens.takeNumber(1, 100));
            shares.rows++;
        }

        private int sharesUnfit() {
            int sum = 0;
            for (int k = 0; k < shares.rows; k++) {
                sum += shares.at(k, Catalogue.SHARE_PERCENT);
            }
            return sum == 100 ? 0 : 1;
        }
    }

    /** Reads the commands of a script. */
    private static final class ScriptReader {
        private final Tokens tokens;
        private final Script script;
        private Catalogue catalogue;

        ScriptReader(Tokens tokens, Script script) {
            this.tokens = tokens;
            this.script = script;
        }

        void readFor(Catalogue names) {
            catalogue = names;
            script.commands.rows = 0;
            readCommands(0);
        }

        private void readCommands(int depth) {
            int end = depth == 0 ? Tokens.END : Tokens.CLOSING;
            for (int n = 0; n <= COMMANDS && tokens.kind() != end; n++) {
                readCommand(depth);
                tokens.take(Tokens.SEMICOLON);
            }
        }

        private void readCommand(int depth) {
            int kind = tokens.kind();
            boolean allowed = kind == Tokens.LEAST || kind >= Tokens.INCOME && kind <= Tokens.REPEAT;
            if (!allowed) {
                tokens.fail(Tokens.NOT_ALLOWED);
            }
            if (kind == Tokens.REPEAT && depth >= REPEAT_DEPTH) {
                tokens.fail(Tokens.TAKEN);
            }
            if (script.commands.rows >= COMMANDS) {
                tokens.fail(Tokens.TOO_MANY);
            }
            tokens.skip();
            int row = script.addCommand(kind);
            switch (kind) {
                case Tokens.INCOME:
                    script.commands.put(row, Script.ONE, takeKnown(catalogue.workNamed(tokens.nameHere())));
                    script.commands.put(row, Script.TWO, tokens.takeNumber(0, GREATEST_NUMBER));
                    break;
                case Tokens.LEAST:
                    script.commands.put(row, Script.ONE, takeKnown(catalogue.payeeNamed(tokens.nameHere())));
                    script.commands.put(row, Script.TWO, tokens.takeNumber(0, GREATEST_NUMBER));
                    break;
                case Tokens.PASS:
                    script.commands.put(row, Script.ONE, tokens.takeNumber(0, GREATEST_NUMBER));
                    break;
                case Tokens.REVERT:
                    script.commands.put(row, Script.ONE, tokens.takeNumber(0, GREATEST_NUMBER));
                    script.commands.put(row, Script.TWO, tokens.takeNumber(0, GREATEST_NUMBER));
                    break;
                case Tokens.REPEAT:
                    readRepeat(row, depth);
                    break;
                default:
                    break;
            }
        }

        private int takeKnown(int number) {
            if (number == NONE) {
                tokens.fail(Tokens.UNKNOWN);
            }
            tokens.skip();
            return number;
        }

        private void readRepeat(int row, int depth) {
            script.commands.put(row, Script.ONE, tokens.takeNumber(1, REPEATS));
            tokens.take(Tokens.OPENING);
            if (depth < REPEAT_DEPTH) {
                readCommands(depth + 1);
            }
            tokens.take(Tokens.CLOSING);
            script.commands.put(row, Script.BEHIND, script.commands.rows);
        }
    }

    /** The commands of a script, which is run on an office. */
    private static final class Script {
        private static final int COMMAND = 0;
        static final int ONE = 1;
        static final int TWO = 2;
        /** Of a "repeat" the first command behind all that it repeats. */
        static final int BEHIND = 3;

        final Table commands = new Table(COMMANDS, 4);
        private Office office;
        private Division division;
        /** How many commands were done, "repeat" not counted. */
        int done;

        int addCommand(int kind) {
            commands.put(commands.rows, COMMAND, kind);
            commands.rows++;
            return commands.rows - 1;
        }

        void startOn(Office present, Division divider) {
            office = present;
            division = divider;
            done = 0;
        }

        /** Answers whether the script goes on. */
        private boolean runCommands(int from, int to, int depth) {
            for (int row = from; row < to; row++) {
                if (commands.at(row, COMMAND) == Tokens.REPEAT) {
                    if (!repeat(row, depth)) {
                        return false;
                    }
                    row = Math.max(row, commands.at(row, BEHIND) - 1);
                } else if (done >= COMMANDS_DONE || !runCommand(row)) {
                    return false;
                } else {
                    done++;
                }
            }
            return true;
        }

        private boolean repeat(int row, int depth) {
            if (depth >= REPEAT_DEPTH) {
                return false;
            }
            int times = Math.min(commands.at(row, ONE), REPEATS);
            for (int n = 0; n < times; n++) {
                if (!runCommands(row + 1, commands.at(row, BEHIND), depth + 1)) {
                    return false;
                }
            }
            return true;
        }

        /** Does what the method of this name does; answers false, and changes nothing, where that one throws. */
        private boolean runCommand(int row) {
            int one = commands.at(row, ONE);
            int two = commands.at(row, TWO);
            switch (commands.at(row, COMMAND)) {
                case Tokens.INCOME:
                    if (!isIncome(two)) {
                        return false;
                    }
                    division.prepare(office, office.day);
                    division.divide(one, two);
                    division.withhold();
                    office.book(division);
                    return true;
                case Tokens.PASS:
                    if (!office.canPass(one)) {
                        return false;
                    }
                    office.day += one;
                    return true;
                case Tokens.REVERT:
                    if (one >= office.assignments.rows || !office.canRevert(one, two)) {
                        return false;
                    }
                    office.assignments.put(one, SECOND_DAY, two);
                    return true;
                case Tokens.LEAST:
                    if (!isLeast(two)) {
                        return false;
                    }
                    office.catalogue.changeLeast(one, two);
                    return true;
                case Tokens.CLOSE:
                    office.closePeriod();
                    return true;
                default:
                    return false;
            }
        }
    }

    /** The bytes of the latest report. */
    private static final class Report {
        // Every amount has fewer than 20 digits, so no line of a report is longer.
        private static final int LINE_BYTES = 2 * LETTERS + 2 * 20 + 4;
        private static final int BYTES = LINES * LINE_BYTES;
        private static final int LONGEST_NUMBER = 20;

        private final byte[] bytes = new byte[BYTES];
        private final byte[] digits = new byte[LONGEST_NUMBER];
        int length;

        int byteAt(int i) {
            return i >= 0 && i < bytes.length ? bytes[i] : 0;
        }

        void writeBalances(Office office) {
            length = 0;
            for (int p = 0; p < office.catalogue.payees; p++) {
                addName(office.catalogue.payeeName(p));
                addByte(':');
                addNumber(office.ledger.balanceOf(p));
                addByte(' ');
                addNumber(office.owedBy(p));
                addByte('\n');
            }
        }

        void writeLines(Office office) {
            length = 0;
            Table lines = office.lines;
            for (int i = 0; i < lines.rows; i++) {
                addName(office.catalogue.workName(lines.at(i, LINE_WORK)));
                addByte(' ');
                addName(office.catalogue.payeeName(lines.at(i, LINE_PAYEE)));
                addByte(' ');
                addNumber(lines.at(i, LINE_AMOUNT));
                if (lines.at(i, LINE_WITHHELD) > 0) {
                    addByte('-');
                    addNumber(lines.at(i, LINE_WITHHELD));
                }
                addByte('\n');
            }
        }

        private void addByte(int b) {
            if (length < bytes.length) {
                bytes[length] = (byte) b;
                length++;
            }
        }

        private void addName(long name) {
            for (int shift = 5 * (LETTERS - 1); shift >= 0; shift -= 5) {
                int letter = (int) (name >> shift & 31);
                if (letter > 0) {
                    addByte('a' + letter - 1);
                }
            }
        }

        private void addNumber(long number) {
            int size = 0;
            long rest = number;
            do {
                digits[size] = (byte) ('0' + rest % 10);
                rest /= 10;
                size++;
            } while (rest > 0 && size < digits.length);
            for (int i = size - 1; i >= 0; i--) {
                addByte(digits[i]);
            }
        }
    }
}
