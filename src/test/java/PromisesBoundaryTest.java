import java.util.ArrayList;
import java.util.List;

/** A test for each sentence of the promises: the ends of its ranges, empty, full, refused and wrong calls. */
public final class PromisesBoundaryTest {
    private static final Sentences T = new Sentences();
    private static final String NEW = "Promise 1: A new object";
    private static final String MEAN = "Promise 2: mean";
    private static final String FORGET = "Promise 3: forget";
    private static final String PACK = "Promise 4: pack";
    private static final String INDEX = "Promise 5: index";
    private static final String ROW = "Promise 6: row";
    private static final String PUT = "Promise 7: put";
    private static final String REMOVE = "Promise 8: remove";
    private static final String MOVE = "Promise 9: move";
    private static final String LIMIT = "Promise 10: limit";
    private static final String APPEND = "Promise 11: append";
    private static final String CLEAR = "Promise 12: clearBuffer";
    private static final String FIRST_ERROR = "Promise 13: firstError";
    private static final String ASK = "Promise 14: ask";
    private static final String PURGE = "Promise 15: purge";
    private static final String UNDO = "Promise 16: undo";
    private static final String ROW_OF = "Promise 17: rowOf";
    private static final String COLUMN = "Promise 18: column";
    private static final String TENANT = "Promise 19: tenant";
    private static final String ANSWER = "Promise 20: answer";
    private static final String COUNT = "Promise 21: count";
    private static final String LOOKED = "Promise 22: looked";
    private static final String BEST_INDEX = "Promise 23: bestIndex";
    private static final String FULLNESS = "Promise 24: fullness";
    private static final String DIGEST = "Promise 25: digest";
    private static final String OUT_OF_RANGE = "Throws `IllegalArgumentException` if an argument is out of range";
    private static final String NO_TENANT = "Throws `IllegalArgumentException` if tenant is out of range";
    private static final String NO_ROW = "Throws `IndexOutOfBoundsException` if there is no such row";
    private static final String NO_QUESTION = NO_TENANT + ", or the buffer does not tell a question as a text";
    private static final String TENANTS = "`tenant`: 0 to 2";

    public static void main(String[] args) {
        aNewObject();
        mean();
        forget();
        pack();
        index();
        row();
        put();
        remove();
        move();
        moveBack();
        limit();
        append();
        clearBuffer();
        firstError();
        ask();
        purge();
        undo();
        rowOf();
        column();
        columnOfValues();
        tenant();
        answer();
        answersInOrder();
        count();
        looked();
        bestIndex();
        bestOfSeveral();
        fullness();
        digest();
        digestOfStates();
        digestOfShares();
        T.nothingLeftOut(NEW, MEAN, FORGET, PACK, INDEX, ROW, PUT, REMOVE, MOVE, LIMIT, APPEND, CLEAR, FIRST_ERROR,
            ASK, PURGE, UNDO, ROW_OF, COLUMN, TENANT, ANSWER, COUNT, LOOKED, BEST_INDEX, FULLNESS, DIGEST);
        T.finish();
    }

    // ---- states to begin with

    /** All columns of a tenant mean something: the letters in their order, all numbers. */
    private static void allColumns(int tenant) {
        T.answered("limit(" + tenant + ", true, 8)");
        for (int letter = 0; letter < 8; letter++) {
            T.answered("mean(" + tenant + ", " + letter + ", 0)");
        }
    }

    private static void tenantsInRange(String section, String call) {
        T.of(section, TENANTS, () -> {
            T.type("a=1");
            T.inRange(call, 0, 1, 2);
        });
    }

    // ---- promises 1 to 5

    private static void aNewObject() {
        T.of(NEW, "Creates an empty table", () -> {
            T.row("count(#)", 0, 0, 0, 0, 8, 0, 0, 0);
            for (int tenant = 0; tenant < 3; tenant++) {
                T.row("tenant(" + tenant + ", #)", 0, 0, 20, 5, 0, 0, 0, 0, 0);
            }
            T.thrown(Sentences.BOUNDS, "rowOf(0, 0)", "remove(0)", "put(0, 0, 0)");
            T.thrown(Sentences.STATE, "undo()");
        });
        T.of(NEW, "whose columns are all spare", () -> {
            for (int column = 0; column < 24; column++) {
                T.row("column(" + column / 8 + ", " + column % 8 + ", #)", -1, -1, -1, -1, -1, -1);
            }
        });
        T.of(NEW, "with an empty buffer", () -> {
            T.due(0, "firstError()");
            T.due(0, "clearBuffer()");
            T.due(1, "append(97)");
        });
    }

    private static void mean() {
        T.of(MEAN, "Gives the lowest column that is spare for a tenant a meaning.", () -> {
            T.answered("mean(1, 0, 0)", "mean(1, 1, 0)");
            allColumns(0);
            T.row("column(0, #, 0)", 0, 1, 2, 3, 4, 5, 6, 7);
            T.answered("forget(0, 7)", "forget(0, 0)", "forget(0, 3)");
            T.due(0, "mean(0, 3, 2)");
            T.due(3, "mean(0, 0, 1)");
            T.due(7, "mean(0, 7, 0)");
            T.row("column(0, #, 0)", 3, 1, 2, 0, 4, 5, 6, 7);
            T.row("column(0, #, 1)", 2, 0, 0, 1, 0, 0, 0, 0);
        });
        T.of(MEAN, "Undoable.", () -> {
            T.undoable(0, "mean(0, 7, 2)");
            T.answered("mean(0, 7, 2)");
            T.undoable(-4, "mean(0, 7, 2)");
            T.answered("limit(0, true, 1)");
            T.undoable(-2, "mean(0, 0, 0)");
        });
        tenantsInRange(MEAN, "mean(#, 0, 0)");
        T.of(MEAN, "`letter`: 0 to 7, for \"a\" to \"h\"", () -> {
            T.inRange("mean(0, #, 0)", 0, 7);
            T.row("column(0, #, 0)", 0, 7, -1);
        });
        T.of(MEAN, "`kind`: 0 to 2", () -> {
            T.row("mean(0, #, #)", 0, 1, 2);
            T.row("column(0, #, 1)", 0, 1, 2, -1);
        });
        T.of(MEAN, "less the reason, less 1, if it is refused: for the reason 1 it is -2, and so on.", () -> {
            T.due(0, "mean(0, 0, 0)");
            T.due(-4, "mean(0, 0, 0)");
            T.answered("limit(0, true, 1)");
            T.due(-2, "mean(0, 1, 0)");
            T.due(2, "tenant(0, 8)");
            T.due(1, "tenant(0, 1)");
        });
        T.of(MEAN, OUT_OF_RANGE, () -> {
            T.outOfRange("mean(#, 0, 0)", -1, 3);
            T.outOfRange("mean(0, #, 0)", -1, 8);
            T.outOfRange("mean(0, 0, #)", -1, 3);
            T.due(0, "count(7)");
        });
    }

    private static void forget() {
        T.of(FORGET, "Takes the meaning of a letter away: its column is spare then, its values and its index are gone.",
            () -> {
                allColumns(0);
                T.answered("row(0)", "row(1)", "mean(1, 7, 0)", "put(0, 0, 1)", "put(0, 6, 2)", "put(0, 7, 3)",
                    "put(1, 7, 4)", "index(0, 7)", "index(0, 0)", "index(1, 7)");
                T.due(1, "forget(0, 7)");
                T.row("column(0, 7, #)", -1, -1, -1, -1, -1, -1);
                T.due(-1, "rowOf(0, 8)");
                T.due(2, "rowOf(0, 9)");
                T.due(2, "count(5)");
                T.due(1, "forget(0, 0)");
                T.due(0, "column(1, 0, 1)");
                T.due(10004, "rowOf(1, 1)");
                T.due(1, "count(5)");
                T.due(0, "mean(0, 7, 0)");
                T.row("column(0, 0, #)", 7, 0, 0, 0, 1000000, 0);
            });
        T.of(FORGET, "Undoable.", () -> {
            T.numberedRows(0, 3);
            T.answered("index(0, 0)");
            T.undoable(3, "forget(0, 0)");
            T.undoable(-6, "forget(0, 1)");
            T.undoable(-6, "forget(1, 0)");
        });
        tenantsInRange(FORGET, "forget(#, 0)");
        T.of(FORGET, "`letter`: 0 to 7", () -> {
            allColumns(0);
            T.inRange("forget(0, #)", 0, 7);
            T.due(6, "tenant(0, 1)");
        });
        T.of(FORGET, "Returns how many values are gone; -6 if it means nothing.", () -> {
            T.due(-6, "forget(0, 0)");
            T.numberedRows(0, 2);
            T.answered("row(0)", "mean(0, 1, 0)");
            T.due(0, "forget(0, 1)");
            T.due(2, "forget(0, 0)");
            T.due(-6, "forget(0, 0)");
            T.due(2, "tenant(0, 8)");
            T.fresh();
            T.answered("limit(0, false, 40)", "move(1)", "row(1)", "mean(1, 0, 0)", "put(0, 0, 5)");
            T.numberedRows(0, 40);
            T.due(40, "forget(0, 0)");
            T.due(1, "forget(1, 0)");
        });
        T.of(FORGET, OUT_OF_RANGE, () -> {
            T.outOfRange("forget(#, 0)", -1, 3);
            T.outOfRange("forget(0, #)", -1, 8);
            T.due(0, "tenant(0, 8)");
        });
    }

    private static void pack() {
        T.of(PACK, "Packs the meanings of a tenant into its lowest columns, in their order", () -> {
            T.due(0, "pack(0)");
            allColumns(0);
            T.due(0, "pack(0)");
            for (int letter = 0; letter < 7; letter++) {
                T.answered("forget(0, " + letter + ")");
            }
            T.due(1, "pack(0)");
            T.row("column(0, #, 0)", 7, -1, -1, -1, -1, -1, -1, -1);
            T.answered("mean(0, 4, 1)", "mean(0, 2, 2)", "forget(0, 7)");
            T.due(2, "pack(0)");
            T.row("column(0, #, 0)", 4, 2, -1);
            T.row("column(0, #, 1)", 1, 2, -1);
        });
        T.of(PACK, "values and indexes go with them", () -> {
            allColumns(0);
            T.answered("row(0)", "put(0, 1, 11)", "put(0, 7, 77)", "index(0, 2)", "index(0, 7)", "forget(0, 0)",
                "row(1)", "mean(1, 0, 0)", "mean(1, 1, 0)", "put(1, 1, 5)", "forget(1, 0)");
            T.due(7, "pack(0)");
            T.row("rowOf(0, #)", 0, 10011, -1, -1, -1, -1, -1, 10077, -1, 2);
            T.row("column(0, #, 2)", 0, 1, 0, 0, 0, 0, 1, -1);
            T.due(2, "count(5)");
            T.row("rowOf(1, #)", 1, -1, 10005, -1);
            T.row("column(1, #, 0)", -1, 1, -1);
        });
        T.of(PACK, "Undoable.", () -> {
            T.undoable(0, "pack(0)");
            allColumns(0);
            T.answered("row(0)", "put(0, 7, 5)", "index(0, 7)", "forget(0, 3)");
            T.undoable(4, "pack(0)");
            T.undoable(0, "pack(1)");
        });
        tenantsInRange(PACK, "pack(#)");
        T.of(PACK, "Returns how many meanings have another column then.", () -> {
            allColumns(0);
            T.answered("forget(0, 7)");
            T.due(0, "pack(0)");
            T.answered("forget(0, 6)", "forget(0, 3)");
            T.due(2, "pack(0)");
            T.due(0, "pack(0)");
            T.answered("forget(0, 0)");
            T.due(4, "pack(0)");
        });
        T.of(PACK, NO_TENANT, () -> {
            T.outOfRange("pack(#)", -1, 3);
            T.due(0, "count(7)");
        });
    }

    private static void index() {
        T.of(INDEX, "Gives a column an index for a tenant, or takes it away.", () -> {
            allColumns(0);
            T.answered("mean(1, 0, 0)");
            T.due(1, "index(0, 0)");
            T.due(1, "index(0, 7)");
            T.row("column(0, #, 2)", 1, 0, 0, 0, 0, 0, 0, 1);
            T.due(0, "column(1, 0, 2)");
            T.due(0, "index(0, 0)");
            T.row("column(0, #, 2)", 0, 0, 0, 0, 0, 0, 0, 1);
        });
        T.of(INDEX, "Undoable.", () -> {
            T.undoable(-6, "index(0, 0)");
            T.answered("mean(0, 0, 0)");
            T.undoable(1, "index(0, 0)");
            T.answered("index(0, 0)");
            T.undoable(0, "index(0, 0)");
        });
        tenantsInRange(INDEX, "index(#, 0)");
        T.of(INDEX, "`letter`: 0 to 7", () -> {
            allColumns(0);
            T.inRange("index(0, #)", 0, 7);
            T.due(2, "count(5)");
        });
        T.of(INDEX, "Returns 1 if it has one then, otherwise 0; -6 if it means nothing.", () -> {
            T.due(-6, "index(0, 0)");
            T.due(1, "tenant(0, 8)");
            T.due(0, "count(5)");
            T.answered("mean(0, 0, 0)", "mean(1, 1, 0)");
            T.due(1, "index(0, 0)");
            T.due(0, "index(0, 0)");
            T.due(1, "index(0, 0)");
            T.due(-6, "index(0, 1)");
            T.answered("forget(0, 0)");
            T.due(-6, "index(0, 0)");
        });
        T.of(INDEX, OUT_OF_RANGE, () -> {
            T.outOfRange("index(#, 0)", -1, 3);
            T.outOfRange("index(0, #)", -1, 8);
            T.due(0, "tenant(0, 8)");
        });
    }

    // ---- promises 6 to 10

    private static void row() {
        T.of(ROW, "A row of a tenant comes.", () -> {
            T.due(0, "row(2)");
            T.row("count(#)", 1, 1, 0);
            T.row("tenant(#, 0)", 0, 0, 1);
            T.row("rowOf(0, #)", 2, -1, -1, -1, -1, -1, -1, -1, -1, 0);
        });
        T.of(ROW, "Undoable.", () -> {
            T.undoable(0, "row(0)");
            T.answered("limit(0, false, 0)");
            T.undoable(-2, "row(0)");
            T.times(20, "row(1)");
            T.times(20, "row(2)");
            T.answered("limit(0, false, 1)");
            T.undoable(-3, "row(0)");
        });
        tenantsInRange(ROW, "row(#)");
        T.of(ROW, "Returns its number; less the reason, less 1, if it is refused.", () -> {
            T.mixedRows();
            T.due(9, "row(0)");
            T.answered("move(0)", "move(2)");
            T.due(3, "row(1)");
            T.due(8, "row(0)");
            T.due(12, "row(2)");
            T.answered("limit(1, false, 4)");
            T.due(-2, "row(1)");
            T.answered("limit(1, false, 40)");
            T.times(36, "row(1)");
            T.due(-2, "row(1)");
            T.times(5, "remove(0)");
            T.due(0, "move(0)");
            T.due(-3, "row(1)");
            T.due(3, "tenant(1, 8)");
        });
        T.of(ROW, NO_TENANT, () -> {
            T.outOfRange("row(#)", -1, 3);
            T.due(0, "count(1)");
        });
    }

    private static void put() {
        T.of(PUT, "Puts a value into a row.", () -> {
            T.numberedRows(0, 3);
            T.answered("put(0, 0, 100)", "put(2, 0, 300)");
            T.row("rowOf(#, 1)", 10100, 10001, 10300);
        });
        T.of(PUT, "Undoable.", () -> {
            T.answered("row(0)", "mean(0, 0, 0)");
            T.undoable(0, "put(0, 0, 5)");
            T.answered("put(0, 0, 5)");
            T.undoable(1, "put(0, 0, 6)");
            T.undoable(1, "put(0, 0, 5)");
            T.undoable(-6, "put(0, 1, 5)");
            T.undoable(-7, "put(0, 0, 1000)");
        });
        T.of(PUT, "`row`: its number", () -> {
            T.mixedRows();
            T.answered("move(0)", "put(0, 0, 50)", "put(8, 0, 60)");
            T.row("rowOf(#, 1)", 10050, 10002, 10004, 10005, 10007, 10008, 10000, 10003, 10060);
        });
        T.of(PUT, "`letter`: 0 to 7, by the meanings of its tenant", () -> {
            allColumns(0);
            T.answered("row(0)", "row(1)", "mean(1, 7, 1)");
            T.inRange("put(0, #, 1)", 0, 7);
            T.row("rowOf(0, #)", 0, 10001, -1, -1, -1, -1, -1, -1, 10001, 2);
            T.due(0, "put(1, 7, 1)");
            T.due(10001, "rowOf(1, 1)");
            T.due(-6, "put(1, 0, 1)");
        });
        T.of(PUT, "`value`: -9999 to 9999", () -> {
            T.answered("row(0)", "mean(0, 0, 0)");
            T.due(-7, "put(0, 0, -9999)");
            T.due(-7, "put(0, 0, 9999)");
            T.due(2, "tenant(0, 8)");
        });
        T.of(PUT, "Returns 1 if it had a value there before, 0 if none; less the reason, less 1, if it is refused.",
            () -> {
                T.answered("row(0)", "mean(0, 0, 0)");
                T.due(0, "put(0, 0, 0)");
                T.due(1, "put(0, 0, 0)");
                T.due(-6, "put(0, 1, 0)");
                T.due(-7, "put(0, 0, 1000)");
                T.due(2, "tenant(0, 8)");
                T.answered("forget(0, 0)", "mean(0, 0, 0)");
                T.due(0, "put(0, 0, 0)");
            });
        T.of(PUT, NO_ROW, () -> {
            T.thrown(Sentences.BOUNDS, "put(0, 0, 0)");
            T.mixedRows();
            T.answered("move(2)");
            T.thrown(Sentences.BOUNDS, "put(9, 0, 0)", "put(9, 8, 10000)", "put(-1, 0, 0)", "put(2147483647, 0, 0)",
                "put(-2147483648, 0, 0)");
            T.answered("put(8, 0, 0)", "remove(8)");
            T.thrown(Sentences.BOUNDS, "put(8, 0, 0)");
        });
        T.of(PUT, "Throws `IllegalArgumentException` if letter or value is out of range", () -> {
            T.answered("row(0)");
            T.outOfRange("put(0, #, 0)", -1, 8);
            T.outOfRange("put(0, 0, #)", -10000, 10000);
            T.due(0, "tenant(0, 8)");
        });
    }

    private static void remove() {
        T.of(REMOVE, "Removes a row.", () -> {
            T.mixedRows();
            T.answered("move(0)", "remove(0)", "remove(7)", "remove(2)");
            T.row("rowOf(#, 1)", 10002, 10004, 10007, 10008, 10000, 10003, Sentences.BOUNDS);
            T.row("tenant(#, 0)", 2, 2, 2);
            // The answers of a question that was asked before are not removed with it.
            T.type("a>-1");
            T.due(2, "ask(0)");
            T.answered("remove(0)");
            T.row("rowOf(#, 1)", 10004, 10007, 10008, 10000, 10003, Sentences.BOUNDS);
        });
        T.of(REMOVE, "Undoable.", () -> {
            T.mixedRows();
            T.undoable(0, "remove(0)");
            T.undoable(2, "remove(8)");
            T.undoable(1, "remove(4)");
        });
        T.of(REMOVE, "`row`: its number", () -> {
            T.answered("row(0)", "row(1)", "row(2)", "remove(1)");
            T.row("rowOf(#, 0)", 0, 2, Sentences.BOUNDS);
        });
        T.of(REMOVE, "Returns its tenant.", () -> {
            T.mixedRows();
            T.answered("move(1)");
            T.due(1, "remove(8)");
            T.due(2, "remove(1)");
            T.due(0, "remove(0)");
        });
        T.of(REMOVE, NO_ROW, () -> {
            T.thrown(Sentences.BOUNDS, "remove(0)");
            T.answered("row(0)");
            T.thrown(Sentences.BOUNDS, "remove(1)", "remove(-1)", "remove(2147483647)", "remove(-2147483648)");
            T.due(0, "remove(0)");
            T.thrown(Sentences.BOUNDS, "remove(0)");
        });
    }

    private static void move() {
        T.of(MOVE, "Moves a tenant to a table of its own", () -> {
            T.due(1, "move(2)");
            T.due(1, "tenant(2, 4)");
            T.due(1, "count(6)");
            T.answered("undo()");
            T.mixedRows();
            T.due(1, "move(2)");
            T.due(1, "move(1)");
            T.due(1, "move(0)");
            T.row("count(#)", 0, 9, 0, 1, 7, 0, 3, 6);
            T.row("rowOf(#, 1)", 10000, 10003, 10006, 10001, 10004, 10007, 10002, 10005, 10008);
        });
        T.of(MOVE, "Undoable.", () -> {
            T.mixedRows();
            T.undoable(1, "move(0)");
            T.answered("move(0)");
            T.undoable(0, "move(0)");
            fullTable();
            T.undoable(-3, "move(0)");
        });
        tenantsInRange(MOVE, "move(#)");
        T.of(MOVE, NO_TENANT, () -> {
            T.outOfRange("move(#)", -1, 3);
            T.due(0, "count(6)");
        });
    }

    /** The table has 40 rows of tenant 1; tenant 0 has one row, in a table of its own. */
    private static void fullTable() {
        T.fresh();
        T.answered("limit(1, false, 40)", "move(0)", "row(0)");
        T.times(40, "row(1)");
    }

    private static void moveBack() {
        T.of(MOVE, "or back, if it has moved (its rows come behind all others of the table, in their order)", () -> {
            T.mixedRows();
            T.answered("move(0)", "move(1)");
            T.due(0, "move(0)");
            T.row("rowOf(#, 1)", 10002, 10005, 10008, 10000, 10003, 10006, 10001, 10004, 10007);
            T.due(0, "move(1)");
            T.row("rowOf(#, 1)", 10002, 10005, 10008, 10000, 10003, 10006, 10001, 10004, 10007);
            T.due(9, "count(0)");
            T.due(9, "row(2)");
        });
        T.of(MOVE, "Returns 1 if it has moved then, 0 if it is back", () -> {
            T.due(1, "move(0)");
            T.due(0, "move(0)");
            T.due(1, "move(0)");
            T.due(0, "tenant(0, 8)");
        });
        T.of(MOVE, "-3 if it is refused, as the table would have more than 40 rows.", () -> {
            fullTable();
            T.due(-3, "move(0)");
            T.due(1, "tenant(0, 4)");
            T.due(1, "tenant(0, 8)");
            T.due(40, "count(0)");
            T.due(41, "count(1)");
            T.answered("remove(0)");
            T.due(0, "move(0)");
            T.due(40, "count(0)");
            T.due(1, "move(0)");
            T.answered("row(0)");
            T.due(-3, "move(0)");
            // One without rows comes back into a full table, too.
            T.answered("row(1)", "remove(40)", "remove(40)");
            T.due(0, "move(0)");
        });
    }

    private static void limit() {
        T.of(LIMIT, "Changes a limit.", () -> {
            T.answered("limit(0, true, 8)", "limit(0, false, 40)", "limit(2, true, 0)", "limit(2, false, 0)");
            T.row("tenant(0, #)", 0, 0, 40, 8);
            T.row("tenant(1, #)", 0, 0, 20, 5);
            T.row("tenant(2, #)", 0, 0, 0, 0);
        });
        T.of(LIMIT, "Undoable.", () -> {
            T.undoable(5, "limit(0, true, 8)");
            T.undoable(20, "limit(0, false, 0)");
            T.undoable(20, "limit(0, false, 20)");
        });
        tenantsInRange(LIMIT, "limit(#, true, 8)");
        T.of(LIMIT, "`columns`: whether it is that of columns, otherwise that of rows", () -> {
            T.due(5, "limit(0, true, 7)");
            T.due(20, "limit(0, false, 7)");
            T.due(7, "limit(0, true, 6)");
            T.row("tenant(0, #)", 0, 0, 7, 6);
        });
        T.of(LIMIT, "`limit`: 0 to 8 for columns, 0 to 40 for rows", () -> {
            T.inRange("limit(0, true, #)", 0, 8);
            T.inRange("limit(0, false, #)", 0, 8, 9, 40);
        });
        T.of(LIMIT, "Returns the previous one.", () -> {
            T.due(5, "limit(0, true, 0)");
            T.due(0, "limit(0, true, 8)");
            T.due(8, "limit(0, true, 8)");
            T.due(20, "limit(0, false, 0)");
            T.due(0, "limit(0, false, 40)");
            T.due(40, "limit(0, false, 1)");
        });
        T.of(LIMIT, OUT_OF_RANGE, () -> {
            T.outOfRange("limit(#, true, 1)", -1, 3);
            T.outOfRange("limit(0, true, #)", -1, 9, 40);
            T.outOfRange("limit(0, false, #)", -1, 41);
            T.due(0, "count(7)");
        });
    }

    // ---- promises 11 to 16

    private static void append() {
        T.of(APPEND, "Appends a character to the buffer.", () -> {
            T.answered("append(97)", "append(61)", "append(49)");
            T.due(3, "firstError()");
            T.answered("append(33)");
            T.due(3, "firstError()");
            T.due(0, "count(7)");
        });
        T.of(APPEND, "`code`: the character code, 33 to 126", () -> {
            T.due(1, "append(33)");
            T.due(2, "append(126)");
        });
        T.of(APPEND, "Returns the new length of the buffer.", () -> {
            for (int length = 1; length <= 40; length++) {
                T.due(length, "append(" + (86 + length) + ")");
            }
        });
        T.of(APPEND, "Throws `IllegalArgumentException` if code is not 33 to 126", () -> {
            T.outOfRange("append(#)", -1, 0, 32, 127, 97 + 256, 97 + 65536);
            T.due(0, "clearBuffer()");
        });
        T.of(APPEND, "Throws `IllegalStateException` if the buffer has 40 characters", () -> {
            T.times(39, "append(97)");
            T.due(40, "append(97)");
            T.thrown(Sentences.STATE, "append(97)", "append(33)", "append(126)");
            T.outOfRange("append(#)", 32, 127);
            T.due(40, "clearBuffer()");
        });
    }

    private static void clearBuffer() {
        T.of(CLEAR, "Clears the buffer.", () -> {
            T.type("a=1");
            T.answered("clearBuffer()");
            T.thrown(Sentences.ARGUMENT, "ask(0)");
            T.type("b=2");
            T.due(3, "firstError()");
            T.due(0, "count(7)");
        });
        T.of(CLEAR, "Returns the length that it had.", () -> {
            T.due(0, "clearBuffer()");
            T.times(40, "append(97)");
            T.due(40, "clearBuffer()");
            T.due(0, "clearBuffer()");
            T.answered("append(97)");
            T.due(1, "clearBuffer()");
        });
    }

    private static void firstError() {
        T.of(FIRST_ERROR, "Finds the first syntax error of the buffer.", () -> {
            T.type("ab=01&&");
            T.due(1, "firstError()");
            T.type("a=01&&x");
            T.due(3, "firstError()");
            T.due(7, "clearBuffer()");
            T.due(0, "count(7)");
        });
        T.of(FIRST_ERROR, "Returns the index of the first character that is a syntax error", () -> {
            T.type("!a=1");
            T.due(0, "firstError()");
            T.type("a=1&b=1&c=1&d=1&e=1&f=1&g=1&h=1&a=1&b=1x");
            T.due(39, "firstError()");
            T.type("a=1&b=1&c=1&d=1&e=1&f=1&g=1&h=1&a=1&i=11");
            T.due(36, "firstError()");
        });
        T.of(FIRST_ERROR, "the length of the buffer if there is none", () -> {
            T.due(0, "firstError()");
            String text = "a=1&b<-12&c>9999&d=-0&e=1&f<2&g>3&h=4567";
            T.answered("clearBuffer()");
            for (int length = 1; length <= 40; length++) {
                T.answered("append(" + (int) text.charAt(length - 1) + ")");
                T.due(length, "firstError()");
            }
        });
    }

    private static void ask() {
        T.of(ASK, "for a tenant, and counts it, and the rows that are looked at.", () -> {
            T.type("a=1");
            T.due(0, "ask(0)");
            T.row("tenant(0, #)", 0, 0, 20, 5, 0, 1, 0, 0, 0);
            T.mixedRows();
            T.due(0, "ask(0)");
            T.due(1, "ask(1)");
            T.row("tenant(0, #)", 3, 1, 20, 5, 0, 2, 9, 0, 0);
            T.row("tenant(1, #)", 3, 1, 20, 5, 0, 1, 9, 1, 0);
            T.answered("index(0, 0)", "ask(0)", "index(1, 0)", "ask(1)", "move(1)", "ask(1)");
            T.row("tenant(0, #)", 3, 1, 20, 5, 0, 3, 9, 0, 0);
            T.row("tenant(1, #)", 3, 1, 20, 5, 1, 3, 13, 3, 0);
            T.row("tenant(2, #)", 3, 1, 20, 5, 0, 0, 0, 0, 0);
        });
        T.of(ASK, "Undoable.", () -> {
            T.mixedRows();
            T.type("a>1");
            T.undoable(2, "ask(0)");
            T.type("a=1");
            T.undoable(0, "ask(0)");
        });
        tenantsInRange(ASK, "ask(#)");
        T.of(ASK, "Returns how many answers it has.", () -> {
            T.type("a>-1");
            T.due(0, "ask(0)");
            T.answered("limit(0, false, 40)");
            T.numberedRows(0, 40);
            T.due(40, "ask(0)");
            T.type("a>38");
            T.due(1, "ask(0)");
            T.type("a>39");
            T.due(0, "ask(0)");
            T.due(41, "tenant(0, 7)");
            // Nothing is left of a longer question that was there before.
            T.type("a<39&a>38&a<0");
            T.due(0, "ask(0)");
            T.type("a<39");
            T.due(39, "ask(0)");
        });
        T.of(ASK, NO_QUESTION, () -> {
            noQuestion("ask(0)");
            T.type("a=1");
            T.outOfRange("ask(#)", -1, 3);
            T.due(0, "count(7)");
            T.due(0, "tenant(0, 5)");
        });
    }

    /** The empty buffer, each beginning of a question that is none, and texts with an error. */
    private static void noQuestion(String call) {
        String[] texts = {"", "a", "a=", "a=-", "a=1&", "a=1&b", "a=1&b=", "a=01", "a=10000", "i=1", "a=1x",
            "a=1&&b=1"};
        for (String text : texts) {
            T.type(text);
            T.thrown(Sentences.ARGUMENT, call);
        }
    }

    private static void purge() {
        T.of(PURGE, "Removes all answers of the question in the buffer for a tenant (it is not counted).", () -> {
            T.mixedRows();
            T.type("a>2");
            T.due(2, "purge(0)");
            T.row("rowOf(#, 1)", 10000, 10001, 10002, 10004, 10005, 10007, 10008, Sentences.BOUNDS);
            T.answered("move(1)");
            T.due(2, "purge(1)");
            T.row("rowOf(#, 1)", 10000, 10002, 10005, 10008, 10001, Sentences.BOUNDS);
            T.type("a>-1");
            T.due(3, "purge(2)");
            T.row("rowOf(#, 1)", 10000, 10001, Sentences.BOUNDS);
            T.row("tenant(1, #)", 1, 1, 20, 5, 1, 0, 0, 0, 0);
        });
        T.of(PURGE, "Undoable.", () -> {
            T.mixedRows();
            T.type("a>1");
            T.undoable(2, "purge(0)");
            T.type("a=9");
            T.undoable(0, "purge(0)");
        });
        tenantsInRange(PURGE, "purge(#)");
        T.of(PURGE, "Returns how many rows are removed.", () -> {
            T.type("a>-1");
            T.due(0, "purge(0)");
            T.answered("limit(0, false, 40)");
            T.numberedRows(0, 40);
            T.due(0, "purge(1)");
            T.due(40, "purge(0)");
            T.due(0, "purge(0)");
            T.due(0, "count(1)");
            T.due(0, "row(0)");
        });
        T.of(PURGE, NO_QUESTION, () -> {
            T.answered("row(0)");
            noQuestion("purge(0)");
            T.type("a=1");
            T.outOfRange("purge(#)", -1, 3);
            T.due(1, "count(7)");
        });
    }

    private static void undo() {
        T.of(UNDO, "Restores the latest saved state, and drops it.", () -> {
            T.mixedRows();
            T.answered("move(0)", "forget(1, 0)", "limit(2, true, 0)");
            T.due(5, "undo()");
            T.due(5, "tenant(2, 3)");
            T.due(-1, "column(1, 0, 0)");
            T.due(4, "undo()");
            T.due(0, "column(1, 0, 0)");
            T.due(1, "tenant(0, 4)");
            T.due(3, "undo()");
            T.due(0, "tenant(0, 4)");
            T.row("rowOf(#, 1)", 10000, 10001, 10002, 10003, 10004, 10005, 10006, 10007, 10008);
            T.answered("row(0)");
            T.due(3, "undo()");
            T.due(9, "count(1)");
        });
        T.of(UNDO, "Returns how many saved states are left.", () -> {
            T.answered("pack(0)");
            T.due(0, "undo()");
            T.times(7, "pack(0)");
            T.row("undo()", 5, 4, 3, 2, 1, 0);
        });
        T.of(UNDO, "Throws `IllegalStateException` if there is none", () -> {
            T.thrown(Sentences.STATE, "undo()");
            T.times(7, "row(0)");
            T.times(6, "undo()");
            T.thrown(Sentences.STATE, "undo()", "undo()");
            T.due(1, "count(1)");
        });
    }

    // ---- promises 17 to 21

    private static void rowOf() {
        T.of(ROW_OF, "Returns something of a row.", () -> {
            T.mixedRows();
            T.answered("move(0)");
            T.row("rowOf(8, #)", 0, 10006, -1, -1, -1, -1, -1, -1, -1, 1);
            T.row("rowOf(0, #)", 1, 10001, -1, -1, -1, -1, -1, -1, -1, 1);
        });
        T.of(ROW_OF, "`row`: its number", () -> {
            T.mixedRows();
            T.row("rowOf(#, 0)", 0, 1, 2, 0, 1, 2, 0, 1, 2, Sentences.BOUNDS);
        });
        T.of(ROW_OF, "1 to 8: its value in the column 0 to 7, plus 10000, NONE without one", () -> {
            allColumns(0);
            T.answered("row(0)", "put(0, 0, -999)", "put(0, 1, 999)", "put(0, 2, 0)", "put(0, 7, -1)");
            T.row("rowOf(0, #)", 0, 9001, 10999, 10000, -1, -1, -1, -1, 9999);
        });
        T.of(ROW_OF, "9: how many values it has", () -> {
            allColumns(0);
            T.answered("row(0)");
            T.due(0, "rowOf(0, 9)");
            for (int letter = 0; letter < 8; letter++) {
                T.answered("put(0, " + letter + ", 0)");
                T.due(letter + 1, "rowOf(0, 9)");
            }
        });
        T.of(ROW_OF, "Returns the number.", () -> {
            T.answered("row(2)");
            T.due(2, "rowOf(0, 0)");
        });
        T.of(ROW_OF, NO_ROW, () -> {
            T.thrown(Sentences.BOUNDS, "rowOf(0, 0)", "rowOf(0, 10)");
            T.mixedRows();
            T.answered("move(0)");
            T.thrown(Sentences.BOUNDS, "rowOf(9, 0)", "rowOf(9, 9)", "rowOf(-1, 0)", "rowOf(-1, 10)",
                "rowOf(2147483647, 1)", "rowOf(-2147483648, 1)");
        });
        T.of(ROW_OF, "Throws `IllegalArgumentException` if what is not 0 to 9", () -> {
            T.answered("row(0)");
            T.inRange("rowOf(0, #)", 0, 9);
            T.outOfRange("rowOf(0, #)", -1, 10);
        });
    }

    private static void column() {
        T.of(COLUMN, "Returns something of a column for a tenant.", () -> {
            T.answered("mean(0, 5, 1)", "mean(1, 6, 2)", "index(1, 6)");
            T.row("column(0, 0, #)", 5, 1, 0, 0, 1000000, 0);
            T.row("column(1, 0, #)", 6, 2, 1, 0, 1000000, 0);
        });
        tenantsInRange(COLUMN, "column(#, 0, 0)");
        T.of(COLUMN, "`column`: 0 to 7", () -> {
            allColumns(1);
            T.row("column(1, #, 0)", 0, 1, 2, 3, 4, 5, 6, 7, Sentences.ARGUMENT);
        });
        T.of(COLUMN, "2: 1 if it has an index, otherwise 0", () -> {
            T.answered("mean(0, 0, 0)");
            T.due(0, "column(0, 0, 2)");
            T.answered("index(0, 0)");
            T.due(1, "column(0, 0, 2)");
        });
        T.of(COLUMN, "Returns the number; NONE if it is spare for the tenant.", () -> {
            T.answered("mean(0, 0, 0)", "mean(0, 1, 0)", "forget(0, 0)");
            T.row("column(0, 0, #)", -1, -1, -1, -1, -1, -1, Sentences.ARGUMENT);
            T.row("column(1, 1, #)", -1, -1, -1, -1, -1, -1);
            T.row("column(0, 1, #)", 1, 0, 0, 0, 1000000, 0);
        });
        T.of(COLUMN, OUT_OF_RANGE, () -> {
            T.answered("mean(0, 0, 0)");
            T.outOfRange("column(#, 0, 0)", -1, 3);
            T.outOfRange("column(0, #, 0)", -1, 8);
            T.outOfRange("column(0, 0, #)", -1, 6);
            T.outOfRange("column(0, 7, #)", -1, 6);
        });
    }

    private static void columnOfValues() {
        T.of(COLUMN, "3: rows of the tenant with a value there", () -> {
            T.mixedRows();
            T.due(3, "column(0, 0, 3)");
            T.answered("row(0)");
            T.due(3, "column(0, 0, 3)");
            T.answered("move(0)", "put(9, 0, 0)");
            T.due(4, "column(0, 0, 3)");
            T.due(3, "column(1, 0, 3)");
        });
        T.of(COLUMN, "4: the sum of these values, plus 1000000", () -> {
            T.answered("mean(0, 0, 0)", "limit(0, false, 40)", "mean(1, 0, 2)", "limit(1, false, 40)", "move(1)");
            T.due(1000000, "column(0, 0, 4)");
            T.times(40, "row(0)");
            T.due(1000000, "column(0, 0, 4)");
            T.times(40, "row(1)");
            for (int row = 0; row < 80; row++) {
                T.answered("put(" + row + ", 0, " + (row < 40 ? -999 : 3650) + ")");
            }
            T.due(1000000 - 39960, "column(0, 0, 4)");
            T.due(1000000 + 146000, "column(1, 0, 4)");
            T.due(1, "column(0, 0, 5)");
        });
        T.of(COLUMN, "5: how many unlike values they are", () -> {
            T.answered("mean(0, 0, 0)", "mean(1, 0, 0)", "row(0)", "row(1)", "row(0)", "row(0)");
            T.due(0, "column(0, 0, 5)");
            T.answered("put(0, 0, 0)", "put(1, 0, 7)");
            T.due(1, "column(0, 0, 5)");
            T.answered("put(2, 0, 7)");
            T.due(2, "column(0, 0, 5)");
            T.answered("put(3, 0, 7)");
            T.due(2, "column(0, 0, 5)");
            T.answered("put(2, 0, -7)");
            T.due(3, "column(0, 0, 5)");
        });
    }

    private static void tenant() {
        T.of(TENANT, "Returns a number of a tenant.", () -> {
            T.row("tenant(2, #)", 0, 0, 20, 5, 0, 0, 0, 0, 0, Sentences.ARGUMENT);
            T.mixedRows();
            T.answered("limit(2, false, 3)", "limit(2, true, 1)", "row(2)", "mean(2, 1, 0)", "move(2)");
            T.type("a>2");
            T.answered("ask(2)", "ask(2)");
            T.row("tenant(2, #)", 3, 1, 3, 1, 1, 2, 6, 4, 2);
        });
        tenantsInRange(TENANT, "tenant(#, 8)");
        T.of(TENANT, "4: 1 if it has moved, otherwise 0", () -> {
            T.due(0, "tenant(0, 4)");
            T.answered("move(0)");
            T.due(1, "tenant(0, 4)");
            T.answered("move(0)");
            T.due(0, "tenant(0, 4)");
        });
        T.of(TENANT, "6: rows that were looked at for them; 7: answers that they had", () -> {
            T.numberedRows(0, 4);
            T.type("a>1");
            T.answered("ask(0)", "purge(0)", "ask(0)", "looked(0, false)", "answer(0, -1, 0)");
            T.due(2, "tenant(0, 5)");
            T.due(6, "tenant(0, 6)");
            T.due(2, "tenant(0, 7)");
        });
        T.of(TENANT, "8: how often it was refused something so far", () -> {
            fullTable();
            T.answered("limit(0, true, 0)", "mean(0, 0, 0)", "put(40, 0, 0)", "move(0)", "limit(0, false, 0)", "row(0)",
                "forget(0, 0)", "index(0, 0)");
            T.due(6, "tenant(0, 8)");
            T.due(0, "tenant(1, 8)");
            T.answered("row(2)");
            T.due(1, "tenant(2, 8)");
        });
        T.of(TENANT, "Returns the number.", () -> {
            T.due(20, "tenant(0, 2)");
            T.due(5, "tenant(0, 3)");
        });
        T.of(TENANT, OUT_OF_RANGE, () -> {
            T.outOfRange("tenant(#, 0)", -1, 3);
            T.outOfRange("tenant(0, #)", -1, 9);
        });
    }

    private static void answer() {
        T.of(ANSWER, "Returns an answer of the question in the buffer.", () -> {
            T.mixedRows();
            T.type("a>1&a<8");
            T.due(3, "answer(0, -1, 0)");
            T.due(4, "answer(1, -1, 0)");
            T.due(2, "answer(2, -1, 0)");
            T.row("tenant(0, #)", 3, 1, 20, 5, 0, 0, 0, 0, 0);
        });
        tenantsInRange(ANSWER, "answer(#, 0, 0)");
        T.of(ANSWER, "`place`: 0 for the first one, and so on", () -> {
            T.answered("limit(0, false, 40)");
            T.numberedRows(0, 40);
            T.type("a>-1");
            T.due(0, "answer(0, -1, 0)");
            T.due(39, "answer(0, -1, 39)");
            T.due(39, "answer(0, 0, 39)");
        });
        T.of(ANSWER, "NONE if there are not so many", () -> {
            T.type("a>-1");
            T.due(-1, "answer(0, -1, 0)");
            T.numberedRows(0, 2);
            T.due(1, "answer(0, -1, 1)");
            T.due(-1, "answer(0, -1, 2)");
            T.due(-1, "answer(0, 0, 2)");
            T.due(-1, "answer(0, 0, 120)");
            T.due(-1, "answer(0, -1, 2147483647)");
            T.due(-1, "answer(1, -1, 0)");
        });
        T.of(ANSWER, "or the buffer does not tell a question as a text.", () -> {
            T.numberedRows(0, 2);
            T.due(-1, "answer(0, -1, 0)");
            T.type("a>-1&");
            T.due(-1, "answer(0, -1, 0)");
            T.type("a>-1&a=01");
            T.due(-1, "answer(0, 0, 0)");
        });
        T.of(ANSWER, "if tenant or letter is out of range, or place is below 0", () -> {
            T.inRange("answer(0, #, 0)", -1, 0, 7);
            T.outOfRange("answer(#, 0, 0)", -1, 3);
            T.outOfRange("answer(0, #, 0)", -2, 8);
            T.thrown(Sentences.ARGUMENT, "answer(0, 0, -1)", "answer(0, -1, -1)", "answer(0, 0, -2147483648)");
            T.type("a=1");
            T.outOfRange("answer(0, #, 0)", -2, 8);
            T.thrown(Sentences.ARGUMENT, "answer(0, 0, -1)");
        });
    }

    /** Six answers of tenant 0; "b" in the column 1 falls, for two of them there is none, and two have the same. */
    private static void unsortedRows() {
        T.answered("mean(0, 0, 0)", "mean(0, 1, 0)");
        for (int row = 0; row < 6; row++) {
            T.answered("row(0)", "put(" + row + ", 0, 1)");
        }
        T.answered("put(1, 1, 5)", "put(2, 1, 0)", "put(3, 1, 5)", "put(5, 1, -999)");
        T.type("a=1");
    }

    private static void answersInOrder() {
        T.of(ANSWER, "answers come by their values there, the least first", () -> {
            unsortedRows();
            T.row("answer(0, 1, #)", 5, 2, 1);
        });
        T.of(ANSWER, "those without one last", () -> {
            unsortedRows();
            T.row("answer(0, 1, #)", 5, 2, 1, 3, 0, 4, -1);
            T.answered("put(0, 1, 999)");
            T.row("answer(0, 1, #)", 5, 2, 1, 3, 0, 4, -1);
            T.answered("forget(0, 1)");
            T.row("answer(0, 1, #)", 0, 1, 2, 3, 4, 5, -1);
            T.row("answer(0, 7, #)", 0, 1, 2, 3, 4, 5, -1);
        });
        T.of(ANSWER, "of several by their numbers", () -> {
            unsortedRows();
            T.row("answer(0, 0, #)", 0, 1, 2, 3, 4, 5, -1);
            T.due(1, "answer(0, 1, 2)");
            T.due(3, "answer(0, 1, 3)");
            T.answered("row(1)", "move(0)", "row(1)");
            T.row("answer(0, 1, #)", 7, 4, 3, 5, 2, 6, -1);
        });
        T.of(ANSWER, "or NONE: by their numbers", () -> {
            unsortedRows();
            T.row("answer(0, -1, #)", 0, 1, 2, 3, 4, 5, -1);
        });
    }

    private static void count() {
        T.of(COUNT, "Returns a number.", () -> T.row("count(#)", 0, 0, 0, 0, 8, 0, 0, 0, Sentences.ARGUMENT));
        T.of(COUNT, "0: rows of the table; 1: all rows, also of tenants that have moved; 2: values in", () -> {
            T.mixedRows();
            T.answered("row(1)", "move(0)");
            T.row("count(#)", 7, 10, 6);
            T.answered("move(1)", "move(2)");
            T.row("count(#)", 0, 10, 0);
        });
        T.of(COUNT, "3: columns that mean something to two tenants or more; 4: columns that are spare for all", () -> {
            T.row("count(#)", 0, 0, 0, 0, 8);
            allColumns(0);
            T.row("count(#)", 0, 0, 0, 0, 0);
            T.answered("mean(1, 0, 0)");
            T.row("count(#)", 0, 0, 0, 1, 0);
            T.answered("mean(2, 0, 0)", "mean(2, 1, 0)");
            T.row("count(#)", 0, 0, 0, 2, 0);
            allColumns(1);
            T.row("count(#)", 0, 0, 0, 8, 0);
        });
        T.of(COUNT, "3 to 5 also of tenants that have moved", () -> {
            T.answered("mean(0, 0, 0)", "mean(1, 0, 0)", "mean(2, 0, 0)", "mean(0, 1, 0)", "index(0, 0)",
                "index(1, 0)", "move(0)", "move(1)", "move(2)");
            T.row("count(#)", 0, 0, 0, 1, 6, 2, 3, 6);
        });
        T.of(COUNT, "7: saved states", () -> {
            for (int saved = 1; saved <= 8; saved++) {
                T.answered("pack(0)");
                T.due(Math.min(saved, 6), "count(7)");
            }
        });
        T.of(COUNT, "Returns the number.", () -> {
            T.answered("row(0)");
            T.row("count(#)", 1, 1, 0, 0, 8, 0, 0, 1);
        });
        T.of(COUNT, "Throws `IllegalArgumentException` if what is not 0 to 7", () -> {
            T.inRange("count(#)", 0, 7);
            T.outOfRange("count(#)", -1, 8);
        });
    }

    // ---- promises 22 to 25

    private static void looked() {
        T.of(LOOKED, "Tells how many rows would be looked at for the question in the buffer.", () -> {
            T.type("a=1");
            T.due(0, "looked(0, false)");
            T.due(0, "looked(0, true)");
            T.mixedRows();
            T.due(9, "looked(0, false)");
            T.answered("index(0, 0)");
            T.due(0, "looked(0, false)");
            T.due(0, "tenant(0, 5)");
            T.due(0, "tenant(0, 6)");
        });
        tenantsInRange(LOOKED, "looked(#, true)");
        T.of(LOOKED, "`moved`: whether this is asked as if the tenant had moved, otherwise as it is", () -> {
            T.mixedRows();
            T.answered("index(1, 0)", "row(1)");
            T.type("a=4");
            T.due(1, "looked(1, false)");
            T.due(4, "looked(1, true)");
            T.due(10, "looked(0, false)");
            T.due(3, "looked(0, true)");
            T.answered("move(1)");
            T.due(4, "looked(1, false)");
            T.due(4, "looked(1, true)");
            T.due(6, "looked(0, false)");
        });
        T.of(LOOKED, "Returns how many; NONE if the buffer does not tell a question as a text.", () -> {
            T.numberedRows(0, 2);
            T.due(-1, "looked(0, false)");
            T.due(-1, "looked(0, true)");
            T.type("a=1&");
            T.due(-1, "looked(0, false)");
            T.type("a=1&b=1");
            T.due(2, "looked(0, false)");
        });
        T.of(LOOKED, NO_TENANT, () -> {
            T.outOfRange("looked(#, false)", -1, 3);
            T.outOfRange("looked(#, true)", -1, 3);
            T.type("a=1");
            T.outOfRange("looked(#, true)", -1, 3);
        });
    }

    private static void best(int letter, String text) {
        T.type(text);
        T.due(letter, "bestIndex(0)");
    }

    private static void bestIndex() {
        T.of(BEST_INDEX, "Finds the letter whose index would help most.", () -> {
            T.numberedRows(0, 4);
            T.answered("mean(0, 7, 0)", "put(0, 7, 1)", "put(1, 7, 1)");
            best(7, "h=1");
            best(0, "h=1&a=1");
            best(7, "h=0&a=1");
        });
        tenantsInRange(BEST_INDEX, "bestIndex(#)");
        T.of(BEST_INDEX, "Returns of the letters in terms with \"=\" of the question in the buffer", () -> {
            T.numberedRows(0, 4);
            T.answered("mean(0, 1, 0)");
            best(-1, "a>1");
            best(-1, "a<1&b>1");
            best(1, "a<1&b=1");
            best(0, "a=1&b>1");
            best(-1, "c=1");
        });
        T.of(BEST_INDEX, "whose column has no index", () -> {
            T.numberedRows(0, 4);
            T.answered("mean(0, 1, 1)", "put(0, 1, 1)", "put(1, 1, 1)", "index(0, 1)");
            best(-1, "b=1");
            best(0, "b=1&a=1");
            T.answered("index(0, 0)");
            best(-1, "b=1&a=1");
            T.answered("index(0, 1)", "index(0, 0)", "mean(1, 0, 0)", "index(1, 0)");
            best(0, "a=1");
        });
        T.of(BEST_INDEX, "NONE if no one makes them fewer", () -> {
            best(-1, "a=1");
            T.answered("mean(0, 0, 0)");
            best(-1, "a=1");
            T.answered("row(0)", "row(0)", "put(0, 0, 1)", "put(1, 0, 1)");
            best(-1, "a=1");
            T.answered("row(1)");
            best(0, "a=1");
            T.answered("mean(0, 1, 0)", "put(0, 1, 5)", "put(1, 1, 5)", "index(0, 1)");
            best(-1, "a=1&b=5");
            T.answered("put(0, 0, 2)");
            best(0, "a=1&b=5");
            T.answered("move(0)");
            best(-1, "a=1");
            // All rows of a tenant that has moved are looked at, with or without an index.
            T.times(3, "row(1)");
            best(-1, "a=1&a=7");
        });
        T.of(BEST_INDEX, "or the buffer does not tell a question as a text.", () -> {
            T.numberedRows(0, 4);
            best(-1, "");
            best(-1, "a=1&");
            best(-1, "a=01");
            best(0, "a=1");
        });
        T.of(BEST_INDEX, NO_TENANT, () -> {
            T.outOfRange("bestIndex(#)", -1, 3);
            T.type("a=1");
            T.outOfRange("bestIndex(#)", -1, 3);
        });
    }

    private static void bestOfSeveral() {
        T.of(BEST_INDEX, "the one with whose index the fewest rows would be looked at", () -> {
            T.numberedRows(0, 4);
            T.answered("mean(0, 1, 0)", "put(0, 1, 9)", "put(1, 1, 9)", "put(2, 1, 8)");
            best(0, "b=9&a=1");
            best(1, "a=0&b=7");
            // An index is for each term with its letter.
            best(1, "b=9&a=1&b=7");
            // The index that there is goes on.
            T.answered("index(0, 0)");
            best(1, "a=1&b=7");
            best(-1, "a=1&b=8");
        });
        T.of(BEST_INDEX, "of several the one of the first term", () -> {
            T.numberedRows(0, 4);
            T.answered("mean(0, 1, 0)", "put(0, 1, 9)", "mean(0, 2, 0)");
            best(0, "a=1&b=9");
            best(1, "b=9&a=1");
            best(2, "c=0&a=7&b=7");
            best(1, "b=7&c=0&a=7");
            // Only terms with "=" count for this.
            best(1, "a<9&b=7&a=7");
            best(0, "b>9&a=7&b=7");
            // The first and the last of as many terms as there can be.
            best(0, "a=7&b=9&a=1&a=1&a=1&a=1&a=1&a=1&a=1&b=9");
            best(1, "a>1&a>1&a>1&a>1&a>1&a>1&a>1&a>1&a>1&b=9");
            // Nothing is left of a longer question that was there before.
            best(-1, "a>1");
            best(0, "a=1");
        });
    }

    private static void fullness() {
        T.of(FULLNESS, "Returns how full the table is.", () -> {
            allColumns(0);
            T.answered("limit(0, false, 40)");
            for (int row = 0; row < 40; row++) {
                T.answered("row(0)");
                for (int letter = 0; letter < 8; letter++) {
                    T.answered("put(" + row + ", " + letter + ", 0)");
                }
                T.due(1.0, "fullness()");
            }
            T.answered("forget(0, 0)");
            T.due(280.0 / 320.0, "fullness()");
        });
        T.of(FULLNESS, "the values in the table, as a double, divided by all places in it: 8 for each row", () -> {
            T.answered("row(0)", "mean(0, 0, 0)", "put(0, 0, 0)");
            T.due(0.125, "fullness()");
            T.answered("row(1)", "row(1)");
            T.due(1.0 / 24.0, "fullness()");
            T.answered("move(1)");
            T.due(0.125, "fullness()");
        });
        T.of(FULLNESS, "0.0 without rows.", () -> {
            T.due(0.0, "fullness()");
            T.answered("row(0)");
            T.due(0.0, "fullness()");
            T.answered("mean(0, 0, 0)", "put(0, 0, 1)", "move(0)");
            T.due(0.0, "fullness()");
            T.answered("move(0)", "remove(0)");
            T.due(0.0, "fullness()");
        });
    }

    private static void digest() {
        T.of(DIGEST, "Computes a hash of the whole state.", () -> {
            T.due(T.toldDigest(""), "digest()");
            T.mixedRows();
            T.due(T.toldDigest(""), "digest()");
            T.due(T.toldDigest(""), "digest()");
        });
        T.of(DIGEST, "Returns the hash.", () -> {
            Object before = T.call("digest()");
            T.answered("row(0)");
            T.compare(false, "the same digest() with a row more", before.equals(T.call("digest()")));
            T.answered("undo()");
            T.due(before, "digest()");
        });
        T.of(DIGEST, "The hash starts at 3049.", () -> {
            List<Object> told = new ArrayList<>(List.of(0, 0, 0, 0, 8, 0, 0, 0));
            for (int tenant = 0; tenant < 3; tenant++) {
                told.addAll(List.of(0, 0, 20, 5, 0, 0, 0, 0, 0));
                // 48 numbers of columns, 3 answers, looked, looked, bestIndex.
                for (int i = 0; i < 48 + 6; i++) {
                    told.add(-1);
                }
            }
            told.addAll(List.of(0, 0));
            T.due(Sentences.hashOf(told), "digest()");
        });
    }

    private static void digestOfStates() {
        T.of(DIGEST, "the hash becomes 31 * hash + v, in long arithmetic with overflow.", () -> {
            for (int tenant = 0; tenant < 3; tenant++) {
                T.answered("limit(" + tenant + ", false, 40)", "move(" + tenant + ")", "mean(" + tenant + ", 0, 0)");
                T.times(40, "row(" + tenant + ")");
            }
            for (int row = 0; row < 120; row++) {
                T.answered("put(" + row + ", 0, " + (row * 7 % 40 - 20) + ")");
            }
            T.type("a>-1");
            T.due(T.toldDigest("a>-1"), "digest()");
            T.answered("move(2)");
            T.due(T.toldDigest("a>-1"), "digest()");
        });
        T.of(DIGEST, "The values are: count(0) to count(7)", () -> {
            unsortedRows();
            T.answered("index(0, 1)", "undo()");
            T.due(T.toldDigest("a=1"), "digest()");
            T.answered("move(1)", "row(1)", "row(1)", "ask(0)", "ask(1)", "ask(2)", "undo()", "undo()");
            T.due(T.toldDigest("a=1"), "digest()");
        });
        T.of(DIGEST, "for each tenant its numbers 0 to 8, for each column its numbers 0 to 5", () -> {
            T.mixedRows();
            T.answered("limit(2, true, 8)", "mean(2, 7, 2)", "mean(2, 6, 1)", "forget(2, 0)", "put(2, 7, 3650)",
                "put(8, 7, 0)", "index(2, 6)", "index(1, 0)", "move(1)", "limit(1, false, 40)", "mean(1, 0, 0)");
            T.type("a>0");
            T.answered("ask(0)", "ask(1)", "ask(2)", "ask(1)");
            T.due(T.toldDigest("a>0"), "digest()");
        });
        T.of(DIGEST, "looked as it is and as if it had moved, and bestIndex", () -> {
            T.mixedRows();
            T.answered("mean(0, 1, 0)", "put(0, 1, 5)", "put(3, 1, 5)", "index(0, 1)", "index(2, 0)", "move(1)");
            String[] texts = {"a=3&b=5", "b=5", "a=3&b=5&", "b=5&a=0&b=5&a=0&b=5&a=0&b=5&a=0&b=5&a=00",
                "b=5&a=0&b=5&a=0&b=5&a=0&b=5&a=0&b=5&a=7", "a<3"};
            for (String text : texts) {
                T.type(text);
                T.due(T.toldDigest(text), "digest()");
            }
        });
        T.of(DIGEST, "answer by the letter 0 at the places 0 to 2 (NONE, too)", () -> {
            T.answered("mean(0, 1, 0)", "mean(0, 0, 0)", "row(0)", "put(0, 1, 5)", "put(0, 0, 9)");
            T.type("b=5");
            T.due(T.toldDigest("b=5"), "digest()");
            T.answered("row(0)", "put(1, 1, 5)", "put(1, 0, 3)");
            T.due(T.toldDigest("b=5"), "digest()");
            T.answered("row(0)", "row(0)", "put(2, 1, 5)", "put(3, 1, 5)", "put(3, 0, 6)");
            T.due(T.toldDigest("b=5"), "digest()");
        });
        T.of(DIGEST, "the length of the buffer and each of its character codes", () -> {
            String text = "!~".repeat(20);
            T.type(text);
            T.due(T.toldDigest(text), "digest()");
            T.type("b=-9999&a=0");
            T.due(T.toldDigest("b=-9999&a=0"), "digest()");
            T.answered("clearBuffer()");
            T.due(T.toldDigest(""), "digest()");
        });
    }

    /** Tables with each share of values that a table of so many rows can have. */
    private static void digestOfShares() {
        T.of(DIGEST, "the bits of fullness (as Double.doubleToLongBits)", () -> {
            for (int rows = 1; rows <= 40; rows++) {
                sharesOf(rows);
            }
        });
    }

    private static void sharesOf(int rows) {
        T.fresh();
        allColumns(0);
        T.answered("limit(0, false, 40)");
        T.times(rows, "row(0)");
        T.due(digestOfValues(rows, 0), "digest()");
        // The calls of one object are enough for the first 80 shares.
        for (int values = 1; values <= 8 * rows && values <= 80; values++) {
            T.answered("put(" + (values - 1) / 8 + ", " + (values - 1) % 8 + ", 1)");
            T.due(digestOfValues(rows, values), "digest()");
        }
    }

    /** The digest that is due for so many rows of tenant 0, whose first places hold a 1. */
    private static long digestOfValues(int rows, int values) {
        int saved = 6;
        List<Object> told = new ArrayList<>(List.of(rows, rows, values, 0, 0, 0, 0, saved));
        for (int place = 0; place < rows * 8; place++) {
            if (place % 8 == 0) {
                told.add(0);
            }
            told.add(place < values ? 10001 : -1);
            if (place % 8 == 7) {
                told.add(Math.max(0, Math.min(8, values - place + 7)));
            }
        }
        for (int tenant = 0; tenant < 3; tenant++) {
            told.addAll(tenant == 0 ? List.of(rows, 8, 40, 8, 0, 0, 0, 0, 0) : List.of(0, 0, 20, 5, 0, 0, 0, 0, 0));
            for (int column = 0; column < 8; column++) {
                int there = (values + 7 - column) / 8;
                told.addAll(tenant == 0 ? List.of(column, 0, 0, there, 1000000 + there, there > 0 ? 1 : 0)
                    : List.of(-1, -1, -1, -1, -1, -1));
            }
            told.addAll(List.of(-1, -1, -1, -1, -1, -1));
        }
        told.add((double) values / (8 * rows));
        told.add(0);
        return Sentences.hashOf(told);
    }
}
