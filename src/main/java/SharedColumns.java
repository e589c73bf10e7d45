/**
 * One table that three tenants share, each with its own meanings of the eight
 * columns, with questions as texts, indexes, limits and undo.
 */
public final class SharedColumns {
    public static final int NONE = -1;

    private static final int TENANTS = 3;
    private static final int COLUMNS = 8;
    private static final int LETTERS = 8;
    private static final int TABLE_ROWS = 40;
    // A tenant's limit of rows is 40 at most, so no more rows than these can ever stand.
    private static final int ALL_ROWS = TENANTS * TABLE_ROWS;
    private static final int BUFFER = 40;
    // A term takes three characters and each but the first an "&" ahead of it: 10 * 3 + 9 = 39.
    private static final int TERMS = 10;
    private static final int SAVED = 6;

    private static final int NUMBER = 0;
    private static final int MARK = 1;
    private static final int DAY = 2;
    private static final int LEAST_PUT = -9999;
    private static final int MOST_PUT = 9999;
    // No kind allows this number, so it can stand for "no value".
    private static final int NO_VALUE = -1000000;

    private static final int LIMIT_REACHED = 1;
    private static final int TABLE_FULL = 2;
    private static final int LETTER_TAKEN = 3;
    private static final int NO_SPARE_COLUMN = 4;
    private static final int MEANS_NOTHING = 5;
    private static final int DOES_NOT_FIT = 6;

    private final State[] saved = new State[SAVED];
    private final int[] buffer = new int[BUFFER];
    private final Question question = new Question();
    // Row numbers of the answers that were collected last.
    private final int[] found = new int[ALL_ROWS];
    private State state = new State();
    private int savedCount;
    private int length;

    public SharedColumns() {
        for (int i = 0; i < SAVED; i++) {
            saved[i] = new State();
        }
    }

    // ---- meanings

    public int mean(int tenant, int letter, int kind) throws IllegalArgumentException {
        require(isTenant(tenant) && isLetter(letter) && kind >= NUMBER && kind <= DAY);
        save();
        Tenant who = state.tenants[tenant];
        if (who.meanings() >= who.columnLimit) {
            return who.refuse(LIMIT_REACHED);
        }
        if (who.columnOf(letter) != NONE) {
            return who.refuse(LETTER_TAKEN);
        }
        int column = who.columnOf(NONE);
        if (column == NONE) {
            return who.refuse(NO_SPARE_COLUMN);
        }
        who.define(column, letter, kind, false);
        return column;
    }

    public int forget(int tenant, int letter) throws IllegalArgumentException {
        require(isTenant(tenant) && isLetter(letter));
        save();
        Tenant who = state.tenants[tenant];
        int column = who.columnOf(letter);
        if (column == NONE) {
            return who.refuse(MEANS_NOTHING);
        }
        int gone = state.rowsWithValue(tenant, column);
        state.shiftValues(tenant, column, NONE);
        who.makeSpare(column);
        return gone;
    }

    public int pack(int tenant) throws IllegalArgumentException {
        require(isTenant(tenant));
        save();
        Tenant who = state.tenants[tenant];
        int target = 0;
        int changed = 0;
        for (int column = 0; column < COLUMNS; column++) {
            if (who.letters[column] != NONE) {
                if (target < column) {
                    who.define(target, who.letters[column], who.kinds[column], who.indexed[column]);
                    who.makeSpare(column);
                    state.shiftValues(tenant, column, target);
                    changed++;
                }
                target++;
            }
        }
        return changed;
    }

    public int index(int tenant, int letter) throws IllegalArgumentException {
        require(isTenant(tenant) && isLetter(letter));
        save();
        Tenant who = state.tenants[tenant];
        int column = who.columnOf(letter);
        if (column == NONE) {
            return who.refuse(MEANS_NOTHING);
        }
        who.indexed[column] = !who.indexed[column];
        return asNumber(who.indexed[column]);
    }

    // ---- rows

    public int row(int tenant) throws IllegalArgumentException {
        require(isTenant(tenant));
        save();
        Tenant who = state.tenants[tenant];
        if (state.rowsOf(tenant) >= who.rowLimit) {
            return who.refuse(LIMIT_REACHED);
        }
        if (!who.moved && state.tableRows() >= TABLE_ROWS) {
            return who.refuse(TABLE_FULL);
        }
        return state.insertRow(tenant);
    }

    public int put(int row, int letter, int value) throws IndexOutOfBoundsException, IllegalArgumentException {
        requireRow(row);
        require(isLetter(letter) && value >= LEAST_PUT && value <= MOST_PUT);
        save();
        Tenant who = state.ownerOf(row);
        int column = who.columnOf(letter);
        if (column == NONE) {
            return who.refuse(MEANS_NOTHING);
        }
        if (!fits(who.kinds[column], value)) {
            return who.refuse(DOES_NOT_FIT);
        }
        boolean had = state.valueAt(row, column) != NO_VALUE;
        state.setValue(row, column, value);
        return asNumber(had);
    }

    public int remove(int row) throws IndexOutOfBoundsException {
        requireRow(row);
        save();
        int owner = state.owners[row];
        found[0] = row;
        state.removeRows(found, 1);
        return owner;
    }

    // ---- tenants

    public int move(int tenant) throws IllegalArgumentException {
        require(isTenant(tenant));
        State before = save();
        Tenant who = state.tenants[tenant];
        if (who.moved && state.tableRows() + state.rowsOf(tenant) > TABLE_ROWS) {
            return who.refuse(TABLE_FULL);
        }
        who.moved = !who.moved;
        state.orderRowsOf(before);
        return asNumber(who.moved);
    }

    public int limit(int tenant, boolean columns, int limit) throws IllegalArgumentException {
        require(isTenant(tenant) && limit >= 0 && limit <= (columns ? COLUMNS : TABLE_ROWS));
        save();
        Tenant who = state.tenants[tenant];
        int previous = columns ? who.columnLimit : who.rowLimit;
        if (columns) {
            who.columnLimit = limit;
        } else {
            who.rowLimit = limit;
        }
        return previous;
    }

    // ---- the buffer

    public int append(int code) throws IllegalArgumentException, IllegalStateException {
        require(code >= 33 && code <= 126);
        if (length >= BUFFER) {
            throw new IllegalStateException("the buffer is full");
        }
        buffer[length] = code;
        length++;
        return length;
    }

    public int clearBuffer() {
        int previous = length;
        length = 0;
        return previous;
    }

    public int firstError() {
        return question.read(buffer, length);
    }

    public int ask(int tenant) throws IllegalArgumentException {
        require(isTenant(tenant) && readQuestion());
        save();
        Tenant who = state.tenants[tenant];
        int answers = collectAnswers(tenant);
        who.questions++;
        who.rowsLooked += rowsToLookAt(tenant, who.moved, NONE);
        who.answers += answers;
        return answers;
    }

    public int purge(int tenant) throws IllegalArgumentException {
        require(isTenant(tenant) && readQuestion());
        save();
        int answers = collectAnswers(tenant);
        state.removeRows(found, answers);
        return answers;
    }

    public int undo() throws IllegalStateException {
        if (savedCount <= 0) {
            throw new IllegalStateException("no state is saved");
        }
        savedCount--;
        State latest = saved[savedCount];
        saved[savedCount] = state;
        state = latest;
        return savedCount;
    }

    // ---- looks; nothing is changed

    public int rowOf(int row, int what) throws IndexOutOfBoundsException, IllegalArgumentException {
        requireRow(row);
        require(what >= 0 && what <= COLUMNS + 1);
        if (what == 0) {
            return state.owners[row];
        }
        if (what == COLUMNS + 1) {
            return state.valuesIn(row);
        }
        int value = state.valueAt(row, what - 1);
        return value == NO_VALUE ? NONE : value + 10000;
    }

    public int column(int tenant, int column, int what) throws IllegalArgumentException {
        require(isTenant(tenant) && column >= 0 && column < COLUMNS && what >= 0 && what <= 5);
        Tenant who = state.tenants[tenant];
        if (who.letters[column] == NONE) {
            return NONE;
        }
        switch (what) {
            case 0: return who.letters[column];
            case 1: return who.kinds[column];
            case 2: return asNumber(who.indexed[column]);
            case 3: return state.rowsWithValue(tenant, column);
            case 4: return state.sumOf(tenant, column) + 1000000;
            default: return state.unlikeValues(tenant, column);
        }
    }

    public int tenant(int tenant, int what) throws IllegalArgumentException {
        require(isTenant(tenant) && what >= 0 && what <= 8);
        Tenant who = state.tenants[tenant];
        switch (what) {
            case 0: return state.rowsOf(tenant);
            case 1: return who.meanings();
            case 2: return who.rowLimit;
            case 3: return who.columnLimit;
            case 4: return asNumber(who.moved);
            case 5: return who.questions;
            case 6: return who.rowsLooked;
            case 7: return who.answers;
            default: return who.refusals;
        }
    }

    public int answer(int tenant, int letter, int place) throws IllegalArgumentException {
        require(isTenant(tenant) && (letter == NONE || isLetter(letter)) && place >= 0);
        if (!readQuestion()) {
            return NONE;
        }
        int answers = collectAnswers(tenant);
        if (letter != NONE) {
            sortAnswers(answers, state.tenants[tenant].columnOf(letter));
        }
        return answerAt(place, answers);
    }

    public int count(int what) throws IllegalArgumentException {
        require(what >= 0 && what <= 7);
        switch (what) {
            case 0: return state.tableRows();
            case 1: return state.rows;
            case 2: return state.tableValues();
            case 3: return state.columnsWithMeanings(2, TENANTS);
            case 4: return state.columnsWithMeanings(0, 0);
            case 5: return state.indexes();
            case 6: return state.movedTenants();
            default: return savedCount;
        }
    }

    // ---- what would be; nothing is changed

    public int looked(int tenant, boolean moved) throws IllegalArgumentException {
        require(isTenant(tenant));
        if (!readQuestion()) {
            return NONE;
        }
        return rowsToLookAt(tenant, moved || state.tenants[tenant].moved, NONE);
    }

    public int bestIndex(int tenant) throws IllegalArgumentException {
        require(isTenant(tenant));
        return readQuestion() ? bestLetter(tenant) : NONE;
    }

    public double fullness() {
        int places = COLUMNS * state.tableRows();
        return places <= 0 ? 0.0 : (double) state.tableValues() / (double) places;
    }

    public long digest() {
        long hash = 3049;
        for (int what = 0; what <= 7; what++) {
            hash = mix(hash, count(what));
        }
        for (int row = 0; row < state.rows; row++) {
            for (int what = 0; what <= COLUMNS + 1; what++) {
                hash = mix(hash, rowOf(row, what));
            }
        }
        boolean asked = readQuestion();
        for (int tenant = 0; tenant < TENANTS; tenant++) {
            hash = mixTenant(hash, tenant);
            hash = mixAnswers(hash, tenant, asked);
        }
        hash = mix(hash, bitsOf(fullness()));
        hash = mix(hash, length);
        for (int i = 0; i < length && i < BUFFER; i++) {
            hash = mix(hash, buffer[i]);
        }
        return hash;
    }

    // ---- parts of the digest

    private static long mix(long hash, long value) {
        return 31 * hash + value;
    }

    private long mixTenant(long start, int tenant) {
        long hash = start;
        for (int what = 0; what <= 8; what++) {
            hash = mix(hash, tenant(tenant, what));
        }
        for (int column = 0; column < COLUMNS; column++) {
            for (int what = 0; what <= 5; what++) {
                hash = mix(hash, column(tenant, column, what));
            }
        }
        return hash;
    }

    private long mixAnswers(long start, int tenant, boolean asked) {
        long hash = start;
        Tenant who = state.tenants[tenant];
        int answers = asked ? collectAnswers(tenant) : 0;
        for (int place = 0; place < answers; place++) {
            hash = mix(hash, answerAt(place, answers));
        }
        sortAnswers(answers, who.columnOf(0));
        for (int place = 0; place <= 2; place++) {
            hash = mix(hash, answerAt(place, answers));
        }
        hash = mix(hash, asked ? rowsToLookAt(tenant, who.moved, NONE) : NONE);
        hash = mix(hash, asked ? rowsToLookAt(tenant, true, NONE) : NONE);
        return mix(hash, asked ? bestLetter(tenant) : NONE);
    }

    /** The bits of a share from 0.0 to 1.0; the language has no function for them. */
    private static long bitsOf(double share) {
        if (!(share > 0.0)) {
            return 0L;
        }
        double scaled = share;
        long exponent = 1023;
        // Doubling is exact, and ends well before the exponents do: a share is 1/320 at least.
        while (scaled < 1.0 && exponent > 1) {
            scaled = scaled * 2.0;
            exponent--;
        }
        long fraction = (long) ((scaled - 1.0) * 4503599627370496.0);
        return (exponent << 52) | fraction;
    }

    // ---- arguments

    private static void require(boolean holds) {
        if (!holds) {
            throw new IllegalArgumentException("an argument is out of range, or the buffer tells no question");
        }
    }

    private void requireRow(int row) {
        if (row < 0 || row >= state.rows) {
            throw new IndexOutOfBoundsException("there is no such row");
        }
    }

    private static boolean isTenant(int tenant) {
        return tenant >= 0 && tenant < TENANTS;
    }

    private static boolean isLetter(int letter) {
        return letter >= 0 && letter < LETTERS;
    }

    private static boolean fits(int kind, int value) {
        switch (kind) {
            case NUMBER: return value >= -999 && value <= 999;
            case MARK: return value == 0 || value == 1;
            default: return value >= 0 && value <= 3650;
        }
    }

    private static int asNumber(boolean holds) {
        return holds ? 1 : 0;
    }

    // ---- saved states

    private State save() {
        if (savedCount >= SAVED) {
            State oldest = saved[0];
            for (int i = 1; i < SAVED; i++) {
                saved[i - 1] = saved[i];
            }
            saved[SAVED - 1] = oldest;
            savedCount = SAVED - 1;
        }
        State before = saved[savedCount];
        before.copyFrom(state);
        savedCount++;
        return before;
    }

    // ---- questions

    private boolean readQuestion() {
        question.read(buffer, length);
        return question.isWhole();
    }

    /** Puts the answers of a tenant into found, by their numbers, and tells how many they are. */
    private int collectAnswers(int tenant) {
        int answers = 0;
        for (int row = 0; row < state.rows && row < ALL_ROWS; row++) {
            if (state.owners[row] == tenant && isAnswer(row, state.tenants[tenant])) {
                found[answers] = row;
                answers++;
            }
        }
        return answers;
    }

    private boolean isAnswer(int row, Tenant who) {
        for (int term = 0; term < question.terms; term++) {
            int value = state.valueAt(row, who.columnOf(question.letters[term]));
            if (value == NO_VALUE || !question.allows(term, value)) {
                return false;
            }
        }
        return true;
    }

    /** Sorts the first rows of found by their values; rows with the same key keep their order. */
    private void sortAnswers(int answers, int column) {
        for (int i = 1; i < answers; i++) {
            int row = found[i];
            int place = i;
            while (place > 0 && comesBefore(row, found[place - 1], column)) {
                found[place] = found[place - 1];
                place--;
            }
            found[place] = row;
        }
    }

    private boolean comesBefore(int row, int other, int column) {
        int value = state.valueAt(row, column);
        int otherValue = state.valueAt(other, column);
        if (value == NO_VALUE) {
            return false;
        }
        return otherValue == NO_VALUE || value < otherValue;
    }

    private int answerAt(int place, int answers) {
        return place >= 0 && place < answers && place < ALL_ROWS ? found[place] : NONE;
    }

    /** How many rows are looked at, if the column of one letter more (or of NONE) had an index. */
    private int rowsToLookAt(int tenant, boolean moved, int letterMore) {
        if (moved) {
            return state.rowsOf(tenant);
        }
        Tenant who = state.tenants[tenant];
        // An index leads to rows of the table only, so it never makes them more.
        int fewest = state.tableRows();
        for (int term = 0; term < question.terms; term++) {
            int letter = question.letters[term];
            int column = who.columnOf(letter);
            if (question.signs[term] == '=' && column != NONE && (who.indexed[column] || letter == letterMore)) {
                fewest = Math.min(fewest, state.rowsWith(tenant, column, question.numbers[term]));
            }
        }
        return fewest;
    }

    private int bestLetter(int tenant) {
        Tenant who = state.tenants[tenant];
        int best = NONE;
        int fewest = rowsToLookAt(tenant, who.moved, NONE);
        for (int term = 0; term < question.terms; term++) {
            int letter = question.letters[term];
            int column = who.columnOf(letter);
            if (question.signs[term] == '=' && column != NONE && !who.indexed[column]) {
                int looks = rowsToLookAt(tenant, who.moved, letter);
                if (looks < fewest) {
                    fewest = looks;
                    best = letter;
                }
            }
        }
        return best;
    }

    /** What the columns mean to one tenant, its limits, and what was counted for it. */
    private static final class Tenant {
        final int[] letters = new int[COLUMNS];
        final int[] kinds = new int[COLUMNS];
        final boolean[] indexed = new boolean[COLUMNS];
        int rowLimit = 20;
        int columnLimit = 5;
        boolean moved;
        int questions;
        int rowsLooked;
        int answers;
        int refusals;

        Tenant() {
            for (int column = 0; column < COLUMNS; column++) {
                letters[column] = NONE;
            }
        }

        void copyFrom(Tenant other) {
            for (int column = 0; column < COLUMNS; column++) {
                define(column, other.letters[column], other.kinds[column], other.indexed[column]);
            }
            rowLimit = other.rowLimit;
            columnLimit = other.columnLimit;
            moved = other.moved;
            questions = other.questions;
            rowsLooked = other.rowsLooked;
            answers = other.answers;
            refusals = other.refusals;
        }

        /** The lowest column with a letter (with NONE: that is spare); NONE if there is no such column. */
        int columnOf(int letter) {
            for (int column = 0; column < COLUMNS; column++) {
                if (letters[column] == letter) {
                    return column;
                }
            }
            return NONE;
        }

        int meanings() {
            int meanings = 0;
            for (int column = 0; column < COLUMNS; column++) {
                meanings += asNumber(letters[column] != NONE);
            }
            return meanings;
        }

        void define(int column, int letter, int kind, boolean withIndex) {
            if (column >= 0 && column < COLUMNS) {
                letters[column] = letter;
                kinds[column] = kind;
                indexed[column] = withIndex;
            }
        }

        void makeSpare(int column) {
            define(column, NONE, NUMBER, false);
        }

        int refuse(int reason) {
            refusals++;
            return -reason - 1;
        }
    }

    /**
     * All that undo restores. The rows stand in the order of their numbers: first those of the
     * table, then those of each tenant that has moved.
     */
    private static final class State {
        final Tenant[] tenants = new Tenant[TENANTS];
        final int[] owners = new int[ALL_ROWS];
        final int[] values = new int[ALL_ROWS * COLUMNS];
        int rows;

        State() {
            for (int tenant = 0; tenant < TENANTS; tenant++) {
                tenants[tenant] = new Tenant();
            }
        }

        void copyFrom(State other) {
            for (int tenant = 0; tenant < TENANTS; tenant++) {
                tenants[tenant].copyFrom(other.tenants[tenant]);
            }
            rows = other.rows;
            System.arraycopy(other.owners, 0, owners, 0, rows);
            System.arraycopy(other.values, 0, values, 0, rows * COLUMNS);
        }

        Tenant ownerOf(int row) {
            return tenants[owners[row]];
        }

        /** The value, or NO_VALUE; also if there is no such row or column. */
        int valueAt(int row, int column) {
            if (row < 0 || row >= rows || column < 0 || column >= COLUMNS) {
                return NO_VALUE;
            }
            return values[row * COLUMNS + column];
        }

        void setValue(int row, int column, int value) {
            if (row >= 0 && row < rows && column >= 0 && column < COLUMNS) {
                values[row * COLUMNS + column] = value;
            }
        }

        /** Takes the values of a tenant out of a column and puts them into another one, if there is one. */
        void shiftValues(int tenant, int from, int to) {
            for (int row = 0; row < rows; row++) {
                if (owners[row] == tenant) {
                    setValue(row, to, valueAt(row, from));
                    setValue(row, from, NO_VALUE);
                }
            }
        }

        /** A row without values comes behind the others of its tenant's table; tells its number. */
        int insertRow(int tenant) {
            if (rows >= ALL_ROWS) {
                return NONE;
            }
            int place = 0;
            while (place < rows && tableOf(owners[place]) <= tableOf(tenant)) {
                place++;
            }
            System.arraycopy(owners, place, owners, place + 1, rows - place);
            System.arraycopy(values, place * COLUMNS, values, (place + 1) * COLUMNS, (rows - place) * COLUMNS);
            rows++;
            owners[place] = tenant;
            for (int column = 0; column < COLUMNS; column++) {
                setValue(place, column, NO_VALUE);
            }
            return place;
        }

        /** Removes the first so many rows of a list of numbers that ascend. */
        void removeRows(int[] numbers, int many) {
            int kept = 0;
            int next = 0;
            for (int row = 0; row < rows; row++) {
                if (next < many && next < numbers.length && numbers[next] == row) {
                    next++;
                } else {
                    copyRow(this, row, kept);
                    kept++;
                }
            }
            rows = kept;
        }

        /** Takes the rows of the state before a tenant moved, and puts them in the order that is due now. */
        void orderRowsOf(State before) {
            rows = 0;
            for (int table = 0; table <= TENANTS; table++) {
                for (int row = 0; row < before.rows; row++) {
                    if (tableOf(before.owners[row]) == table) {
                        copyRow(before, row, rows);
                        rows++;
                    }
                }
            }
        }

        private void copyRow(State from, int row, int place) {
            owners[place] = from.owners[row];
            System.arraycopy(from.values, row * COLUMNS, values, place * COLUMNS, COLUMNS);
        }

        /** 0 for the shared table, otherwise 1 more than the tenant whose own table it is. */
        private int tableOf(int tenant) {
            return tenants[tenant].moved ? tenant + 1 : 0;
        }

        int tableRows() {
            int inTable = 0;
            for (int row = 0; row < rows; row++) {
                inTable += asNumber(!ownerOf(row).moved);
            }
            return inTable;
        }

        int tableValues() {
            int inTable = 0;
            for (int row = 0; row < rows; row++) {
                inTable += ownerOf(row).moved ? 0 : valuesIn(row);
            }
            return inTable;
        }

        int valuesIn(int row) {
            int in = 0;
            for (int column = 0; column < COLUMNS; column++) {
                in += asNumber(valueAt(row, column) != NO_VALUE);
            }
            return in;
        }

        int rowsOf(int tenant) {
            int own = 0;
            for (int row = 0; row < rows; row++) {
                own += asNumber(owners[row] == tenant);
            }
            return own;
        }

        int rowsWithValue(int tenant, int column) {
            return rowsOf(tenant) - rowsWith(tenant, column, NO_VALUE);
        }

        /** Rows of a tenant with this value in a column, or with NO_VALUE there. */
        int rowsWith(int tenant, int column, int value) {
            int with = 0;
            for (int row = 0; row < rows; row++) {
                with += asNumber(owners[row] == tenant && valueAt(row, column) == value);
            }
            return with;
        }

        int sumOf(int tenant, int column) {
            int sum = 0;
            for (int row = 0; row < rows; row++) {
                int value = valueAt(row, column);
                sum += owners[row] == tenant && value != NO_VALUE ? value : 0;
            }
            return sum;
        }

        int unlikeValues(int tenant, int column) {
            int unlike = 0;
            for (int row = 0; row < rows; row++) {
                if (owners[row] == tenant && valueAt(row, column) != NO_VALUE) {
                    unlike += asNumber(!standsAhead(tenant, column, row));
                }
            }
            return unlike;
        }

        private boolean standsAhead(int tenant, int column, int row) {
            int value = valueAt(row, column);
            for (int ahead = 0; ahead < row; ahead++) {
                if (owners[ahead] == tenant && valueAt(ahead, column) == value) {
                    return true;
                }
            }
            return false;
        }

        /** Columns that mean something to at least and at most so many tenants. */
        int columnsWithMeanings(int least, int most) {
            int columns = 0;
            for (int column = 0; column < COLUMNS; column++) {
                int meanings = 0;
                for (int tenant = 0; tenant < TENANTS; tenant++) {
                    meanings += asNumber(tenants[tenant].letters[column] != NONE);
                }
                columns += asNumber(meanings >= least && meanings <= most);
            }
            return columns;
        }

        int indexes() {
            int indexes = 0;
            for (int tenant = 0; tenant < TENANTS; tenant++) {
                for (int column = 0; column < COLUMNS; column++) {
                    indexes += asNumber(tenants[tenant].indexed[column]);
                }
            }
            return indexes;
        }

        int movedTenants() {
            int moved = 0;
            for (int tenant = 0; tenant < TENANTS; tenant++) {
                moved += asNumber(tenants[tenant].moved);
            }
            return moved;
        }
    }

    /** The terms of a question, read from a text. */
    private static final class Question {
        private static final int LETTER_DUE = 0;
        private static final int SIGN_DUE = 1;
        private static final int NUMBER_DUE = 2;
        private static final int DIGIT_DUE = 3;
        private static final int BEHIND_DIGIT = 4;
        private static final int BEHIND_ERROR = 5;

        final int[] letters = new int[TERMS];
        final int[] signs = new int[TERMS];
        final int[] numbers = new int[TERMS];
        int terms;
        private int reading;
        private boolean negative;

        /** Reads a text; tells the index of its first syntax error, or its length. */
        int read(int[] text, int textLength) {
            terms = 0;
            reading = LETTER_DUE;
            for (int i = 0; i < textLength && i < text.length; i++) {
                if (!take(text[i])) {
                    reading = BEHIND_ERROR;
                    return i;
                }
            }
            return textLength;
        }

        boolean isWhole() {
            return reading == BEHIND_DIGIT;
        }

        boolean allows(int term, int value) {
            switch (signs[term]) {
                case '=': return value == numbers[term];
                case '<': return value < numbers[term];
                default: return value > numbers[term];
            }
        }

        private boolean take(int code) {
            switch (reading) {
                case LETTER_DUE: return takeLetter(code);
                case SIGN_DUE: return takeSign(code);
                case NUMBER_DUE: return takeMinus(code) || takeDigit(code);
                case DIGIT_DUE: return takeDigit(code);
                case BEHIND_DIGIT: return takeAnd(code) || (mayGrow() && takeDigit(code));
                default: return false;
            }
        }

        private boolean takeLetter(int code) {
            if (code < 'a' || code > 'h' || terms >= TERMS) {
                return false;
            }
            letters[terms] = code - 'a';
            signs[terms] = 0;
            numbers[terms] = 0;
            negative = false;
            terms++;
            reading = SIGN_DUE;
            return true;
        }

        private boolean takeSign(int code) {
            if (terms <= 0 || (code != '=' && code != '<' && code != '>')) {
                return false;
            }
            signs[terms - 1] = code;
            reading = NUMBER_DUE;
            return true;
        }

        private boolean takeMinus(int code) {
            if (code != '-') {
                return false;
            }
            negative = true;
            reading = DIGIT_DUE;
            return true;
        }

        private boolean takeDigit(int code) {
            if (terms <= 0 || code < '0' || code > '9') {
                return false;
            }
            int digit = code - '0';
            numbers[terms - 1] = numbers[terms - 1] * 10 + (negative ? -digit : digit);
            reading = BEHIND_DIGIT;
            return true;
        }

        /** Whether one more digit leaves a number up to 9999 without a leading zero. */
        private boolean mayGrow() {
            int number = terms <= 0 ? 0 : Math.abs(numbers[terms - 1]);
            return number > 0 && number < 1000;
        }

        private boolean takeAnd(int code) {
            if (code != '&') {
                return false;
            }
            reading = LETTER_DUE;
            return true;
        }
    }
}
