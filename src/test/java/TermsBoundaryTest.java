/**
 * A test for each sentence ahead of the promises that names a boundary case: too small, too large, empty, full,
 * the ends of a range, a call that is refused or throws.
 */
public final class TermsBoundaryTest {
    private static final Sentences T = new Sentences();

    public static void main(String[] args) {
        calls();
        terms();
        rows();
        movedRows();
        questions();
        looks();
        limits();
        reasons();
        reasonsOfOneAfterAnother();
        buffer();
        texts();
        syntaxErrors();
        undo();
        savedStates();
        exceptions();
        T.namesNoBoundary("Terms", "All numbers are integers, but for a share.");
        T.namesNoBoundary("Terms", "Columns, meanings");
        T.namesNoBoundary("Exceptions", "the interface says: ---- meanings.");
        T.namesNoBoundary("Exceptions", "the interface says: ---- rows.");
        T.namesNoBoundary("Exceptions", "the interface says: ---- tenants.");
        T.namesNoBoundary("Exceptions", "the interface says: ---- the buffer.");
        T.nothingLeftOut("Terms", "Rows", "Questions", "Limits", "Input text", "Undo", "Exceptions");
        T.finish();
    }

    private static void calls() {
        T.of("What it is", "An object is used for at most 512 calls after it has been made", () -> {
            T.answered("mean(0, 0, 0)", "limit(0, false, 40)");
            T.times(40, "row(0)");
            T.type("a=1");
            T.times(465, "ask(0)");
            T.due(465 * 40, "tenant(0, 6)");
        });
    }

    // ---- columns and meanings

    private static void terms() {
        T.of("Terms", "There are 8 columns, numbered from 0", () -> {
            T.due(8, "count(4)");
            T.due(5, "limit(2, true, 8)");
            for (int column = 0; column < 8; column++) {
                T.due(column, "mean(2, " + column + ", 0)");
                T.due(column, "column(2, " + column + ", 0)");
            }
            T.due(0, "count(4)");
            T.outOfRange("column(2, #, 0)", -1, 8);
        });
        T.of("Terms", "3 tenants, 0 to 2", () -> {
            T.row("row(#)", 0, 1, 2);
            T.row("rowOf(#, 0)", 0, 1, 2);
            T.outOfRange("row(#)", -1, 3);
            T.due(3, "count(1)");
        });
        T.of("Terms", "a letter, \"a\" to \"h\"", () -> {
            T.due(0, "mean(0, 7, 0)");
            T.due(1, "mean(0, 0, 0)");
            T.answered("row(0)", "put(0, 7, 70)", "put(0, 0, 10)");
            T.type("a=10&h=70");
            T.due(1, "ask(0)");
            T.type("a=70");
            T.due(0, "ask(0)");
            T.outOfRange("mean(0, #, 0)", -1, 8);
        });
        T.of("Terms", "no two columns of one tenant the same", () -> {
            T.due(0, "mean(0, 3, 2)");
            T.due(-4, "mean(0, 3, 1)");
            T.due(1, "tenant(0, 1)");
            T.due(2, "column(0, 0, 1)");
            T.due(-1, "column(0, 1, 0)");
            T.due(0, "mean(1, 3, 1)");
        });
        T.of("Terms", "0 a number, -999 to 999", () -> fitting(0, -999, 999));
        T.of("Terms", "1 a mark, 0 or 1", () -> fitting(1, 0, 1));
        T.of("Terms", "2 a day, 0 to 3650", () -> fitting(2, 0, 3650));
        T.of("Terms", "What it means to one tenant does not matter to the others.", () -> {
            T.due(0, "mean(0, 0, 1)");
            T.due(0, "mean(1, 0, 2)");
            T.answered("row(0)", "row(1)", "limit(0, true, 0)", "index(0, 0)");
            T.due(-7, "put(0, 0, 2)");
            T.due(0, "put(1, 0, 2)");
            T.due(0, "column(1, 0, 2)");
            T.due(1, "mean(1, 1, 0)");
            T.due(0, "forget(0, 0)");
            T.due(0, "column(1, 0, 0)");
            T.due(10002, "rowOf(1, 1)");
            T.due(-1, "column(2, 0, 0)");
        });
    }

    /** Values of one kind: both ends stand, one less and one more are refused, and so are the ends of put. */
    private static void fitting(int kind, int least, int most) {
        T.answered("mean(0, 0, " + kind + ")", "row(0)");
        T.due(-7, "put(0, 0, " + (least - 1) + ")");
        T.due(-1, "rowOf(0, 1)");
        T.due(0, "put(0, 0, " + least + ")");
        T.due(10000 + least, "rowOf(0, 1)");
        T.due(1, "put(0, 0, " + most + ")");
        T.due(-7, "put(0, 0, " + (most + 1) + ")");
        T.due(-7, "put(0, 0, " + (least - 1) + ")");
        T.due(-7, "put(0, 0, -9999)");
        T.due(-7, "put(0, 0, 9999)");
        T.due(10000 + most, "rowOf(0, 1)");
        T.due(5, "tenant(0, 8)");
    }

    // ---- rows

    private static void rows() {
        T.of("Rows", "The table has at most 40 rows", () -> {
            T.times(20, "row(0)");
            T.times(19, "row(1)");
            T.due(39, "row(2)");
            T.due(-3, "row(2)");
            T.due(-3, "row(1)");
            T.due(40, "count(0)");
            T.due(2, "rowOf(39, 0)");
            T.thrown(Sentences.BOUNDS, "rowOf(40, 0)");
            T.due(0, "remove(0)");
            T.due(39, "row(1)");
            T.due(-3, "row(2)");
        });
        T.of("Rows", "numbered from 0 in the order in which they came", () -> {
            T.due(0, "row(2)");
            T.due(1, "row(0)");
            T.due(2, "row(1)");
            T.due(3, "row(2)");
            T.row("rowOf(#, 0)", 2, 0, 1, 2, Sentences.BOUNDS);
        });
        T.of("Rows", "if one is removed, those behind it have numbers that are less by 1", () -> {
            T.numberedRows(0, 5);
            T.due(0, "remove(2)");
            T.row("rowOf(#, 1)", 10000, 10001, 10003, 10004, Sentences.BOUNDS);
            T.due(0, "remove(3)");
            T.row("rowOf(#, 1)", 10000, 10001, 10003, Sentences.BOUNDS);
            T.due(0, "remove(0)");
            T.row("rowOf(#, 1)", 10001, 10003, Sentences.BOUNDS);
            T.times(2, "remove(0)");
            T.due(0, "count(1)");
            T.thrown(Sentences.BOUNDS, "remove(0)");
        });
        T.of("Rows", "in columns that are spare for its tenant it has none", () -> {
            T.answered("limit(0, true, 8)", "row(0)");
            for (int letter = 0; letter < 8; letter++) {
                T.answered("mean(0, " + letter + ", 0)", "mean(1, " + letter + ", 0)", "put(0, " + letter + ", 0)");
            }
            T.due(8, "rowOf(0, 9)");
            T.answered("forget(0, 0)", "forget(0, 4)", "forget(0, 7)");
            T.row("rowOf(0, #)", 0, -1, 10000, 10000, 10000, -1, 10000, 10000, -1, 5);
            T.answered("pack(0)");
            T.row("rowOf(0, #)", 0, 10000, 10000, 10000, 10000, 10000, -1, -1, -1, 5);
            T.due(5, "mean(0, 0, 0)");
            T.due(-1, "rowOf(0, 6)");
            T.due(0, "column(0, 5, 3)");
        });
        T.of("Rows", "A row comes without values.", () -> {
            T.numberedRows(0, 3);
            T.due(0, "remove(2)");
            T.due(2, "row(0)");
            T.row("rowOf(2, #)", 0, -1, -1, -1, -1, -1, -1, -1, -1, 0);
            T.due(1, "move(0)");
            // A row that comes between others has none of theirs, and they keep what they have.
            T.due(0, "row(1)");
            T.due(0, "rowOf(0, 9)");
            T.row("rowOf(#, 1)", -1, 10000, 10001, -1);
        });
    }

    private static void movedRows() {
        T.of("Rows", "they stay in the same order, with the same values", () -> {
            T.mixedRows();
            T.answered("remove(3)", "row(0)", "move(0)");
            T.row("rowOf(#, 1)", 10001, 10002, 10004, 10005, 10007, 10008, 10000, 10006, -1);
            T.row("rowOf(#, 0)", 1, 2, 1, 2, 1, 2, 0, 0, 0);
        });
        T.of("Rows", "but do not count for the table", () -> {
            T.mixedRows();
            T.due(1, "move(1)");
            T.due(6, "count(0)");
            T.due(9, "count(1)");
            T.due(6, "count(2)");
            T.due(6.0 / 48.0, "fullness()");
            T.answered("move(0)", "move(2)");
            T.due(0, "count(0)");
            T.due(9, "count(1)");
            T.due(0, "count(2)");
            T.due(0.0, "fullness()");
        });
        T.of("Rows", "behind all rows of the table (those of tenants with lower numbers first)", () -> {
            T.mixedRows();
            T.answered("move(2)", "move(0)");
            T.row("rowOf(#, 1)", 10001, 10004, 10007, 10000, 10003, 10006, 10002, 10005, 10008);
            T.due(3, "row(1)");
            T.due(7, "row(0)");
            T.due(11, "row(2)");
            T.row("rowOf(#, 0)", 1, 1, 1, 1, 0, 0, 0, 0, 2, 2, 2, 2, Sentences.BOUNDS);
            T.answered("move(1)");
            T.row("rowOf(#, 0)", 0, 0, 0, 0, 1, 1, 1, 1, 2, 2, 2, 2, Sentences.BOUNDS);
        });
    }

    // ---- questions

    private static void questions() {
        T.of("Questions", "A question of a tenant is one or more terms", () -> {
            T.numberedRows(0, 3);
            T.thrown(Sentences.ARGUMENT, "ask(0)");
            T.type("a=1");
            T.due(1, "ask(0)");
            T.type("a>0&a>0&a>0&a>0&a>0&a>0&a>0&a>0&a>0&a<3");
            T.due(2, "ask(0)");
            T.type("a>0&a>0&a>0&a>0&a>0&a>0&a>0&a>0&a>0&a<1");
            T.due(0, "ask(0)");
        });
        T.of("Questions", "A row is an answer if it belongs to the tenant", () -> {
            T.mixedRows();
            T.type("a>-9999");
            T.row("answer(1, -1, #)", 1, 4, 7, -1);
            T.answered("move(1)");
            T.row("answer(1, -1, #)", 6, 7, 8, -1);
            T.row("answer(2, -1, #)", 1, 3, 5, -1);
        });
        T.of("Questions", "for each term, has a value in the column with this letter", () -> {
            T.numberedRows(0, 3);
            T.answered("mean(0, 1, 0)", "put(1, 1, 5)");
            T.type("b<9999");
            T.row("answer(0, -1, #)", 1, -1);
            T.type("b>-9999");
            T.row("answer(0, -1, #)", 1, -1);
            T.type("a<9999&b=5");
            T.row("answer(0, -1, #)", 1, -1);
            T.type("b=5&a<1");
            T.due(-1, "answer(0, -1, 0)");
        });
        T.of("Questions", "the same as, less or greater than the number", () -> {
            T.answered("mean(0, 0, 0)", "row(0)", "row(0)", "row(0)", "put(0, 0, -1)", "put(1, 0, 0)", "put(2, 0, 1)");
            T.type("a<0");
            T.row("answer(0, -1, #)", 0, -1);
            T.type("a=0");
            T.row("answer(0, -1, #)", 1, -1);
            T.type("a>0");
            T.row("answer(0, -1, #)", 2, -1);
            T.type("a<-1");
            T.due(-1, "answer(0, -1, 0)");
            T.type("a>1");
            T.due(-1, "answer(0, -1, 0)");
            T.type("a>-2");
            T.row("answer(0, -1, #)", 0, 1, 2, -1);
        });
        T.of("Questions", "A letter that means nothing to the tenant has no value in any row.", () -> {
            T.numberedRows(0, 2);
            T.answered("mean(1, 1, 0)");
            String[] texts = {"b=0", "b<9999", "b>-9999", "a>-1&b<1", "h=0"};
            for (String text : texts) {
                T.type(text);
                T.due(0, "ask(0)");
            }
            T.answered("forget(0, 0)");
            T.type("a>-9999");
            T.due(0, "ask(0)");
        });
    }

    private static void looks() {
        T.of("Questions", "those of the tenant alone, if it has moved", () -> {
            T.mixedRows();
            T.answered("index(1, 0)", "move(1)");
            T.type("a=1");
            T.due(3, "looked(1, false)");
            T.type("a>1");
            T.due(3, "looked(1, false)");
            T.answered("purge(1)", "remove(6)");
            T.due(0, "looked(1, false)");
        });
        T.of("Questions", "otherwise all of the table", () -> {
            T.type("a=1");
            T.due(0, "looked(0, false)");
            T.mixedRows();
            T.due(9, "looked(0, false)");
            T.answered("move(1)");
            T.due(6, "looked(0, false)");
        });
        T.of("Questions", "an index (of the tenant), only those of the tenant with this value there", () -> {
            T.mixedRows();
            T.answered("index(1, 0)", "put(1, 0, 4)", "put(2, 0, 4)");
            T.type("a=4");
            T.due(2, "looked(1, false)");
            T.due(9, "looked(0, false)");
            T.type("a=9999");
            T.due(0, "looked(1, false)");
            T.type("a<4");
            T.due(9, "looked(1, false)");
            T.type("a>4");
            T.due(9, "looked(1, false)");
            T.type("b=4");
            T.due(9, "looked(1, false)");
        });
        T.of("Questions", "of several such terms the one with the fewest such rows counts", () -> {
            T.numberedRows(0, 4);
            T.answered("mean(0, 1, 1)", "put(0, 1, 1)", "put(1, 1, 1)", "put(2, 1, 1)", "index(0, 1)");
            T.type("b=1&a=0");
            T.due(3, "looked(0, false)");
            T.answered("index(0, 0)");
            T.due(1, "looked(0, false)");
            T.type("a=0&b=1");
            T.due(1, "looked(0, false)");
            T.type("b=1&b=0&a=1");
            T.due(0, "looked(0, false)");
        });
    }

    // ---- limits

    private static void limits() {
        T.of("Limits", "A tenant has a limit of rows, 0 to 40, at first 20 each", () -> {
            T.times(19, "row(1)");
            T.due(19, "row(1)");
            T.due(-2, "row(1)");
            T.due(20, "row(0)");
            T.due(20, "limit(1, false, 21)");
            T.due(21, "row(1)");
            T.due(-2, "row(1)");
            T.due(20, "limit(2, false, 0)");
            T.due(-2, "row(2)");
            T.due(21, "limit(1, false, 0)");
            T.due(21, "tenant(1, 0)");
            T.answered("remove(0)");
            T.due(-2, "row(1)");
            T.outOfRange("limit(0, false, #)", -1, 41);
            T.inRange("limit(0, false, #)", 0, 40);
        });
        T.of("Limits", "of columns with meanings, 0 to 8, at first 5 each", () -> {
            for (int letter = 0; letter < 5; letter++) {
                T.due(letter, "mean(1, " + letter + ", 0)");
            }
            T.due(-2, "mean(1, 5, 0)");
            T.due(0, "mean(0, 5, 0)");
            T.due(5, "limit(1, true, 6)");
            T.due(5, "mean(1, 5, 0)");
            T.due(-2, "mean(1, 6, 0)");
            T.due(5, "limit(2, true, 0)");
            T.due(-2, "mean(2, 0, 0)");
            T.due(6, "limit(1, true, 0)");
            T.due(6, "tenant(1, 1)");
            T.outOfRange("limit(0, true, #)", -1, 9);
            T.inRange("limit(0, true, #)", 0, 8);
        });
    }

    private static void reasons() {
        T.of("Limits", "1: the limit of the tenant is reached", () -> {
            T.answered("limit(0, false, 1)", "limit(0, true, 1)");
            T.due(0, "row(0)");
            T.due(-2, "row(0)");
            T.due(0, "mean(0, 0, 0)");
            T.due(-2, "mean(0, 1, 0)");
            T.due(2, "tenant(0, 8)");
        });
        T.of("Limits", "2: the table has 40 rows", () -> {
            T.times(20, "row(0)");
            T.times(19, "row(1)");
            T.due(39, "row(2)");
            T.due(-3, "row(2)");
            T.due(1, "tenant(2, 8)");
        });
        T.of("Limits", "a tenant that has moved does not matter for this: its table has at most 40 of its own", () -> {
            T.answered("limit(2, false, 40)", "limit(1, false, 40)", "move(2)");
            T.times(40, "row(1)");
            T.due(-3, "row(0)");
            T.due(40, "row(2)");
            T.times(39, "row(2)");
            T.due(40, "tenant(2, 0)");
            T.due(-2, "row(2)");
            T.due(40, "tenant(2, 0)");
            T.answered("remove(0)");
            T.due(39, "row(0)");
        });
        everyRow();
        T.of("Limits", "3: the letter means something already", () -> {
            T.due(0, "mean(0, 2, 1)");
            T.due(-4, "mean(0, 2, 1)");
            T.due(1, "tenant(0, 8)");
            T.answered("forget(0, 2)");
            T.due(0, "mean(0, 2, 0)");
        });
        T.of("Limits", "4: no column is spare for the tenant", () -> {
            T.answered("limit(0, true, 8)");
            T.row("mean(0, #, 0)", 0, 1, 2, 3, 4, 5, 6, 7);
            // The limit is 8 at most, so that it is reached whenever no column is spare.
            T.row("mean(0, #, 0)", -2, -2, -2, -2, -2, -2, -2, -2);
            T.due(8, "tenant(0, 1)");
        });
        T.of("Limits", "5: it means nothing", () -> {
            T.answered("mean(1, 3, 0)", "row(0)");
            T.due(-6, "put(0, 3, 0)");
            T.due(-6, "forget(0, 3)");
            T.due(-6, "index(0, 3)");
            T.due(3, "tenant(0, 8)");
            T.due(0, "tenant(1, 8)");
        });
        T.of("Limits", "6: the value does not fit to the kind", () -> {
            T.answered("mean(0, 0, 1)", "row(0)");
            T.due(-7, "put(0, 0, 2)");
            T.due(-1, "rowOf(0, 1)");
            T.due(1, "tenant(0, 8)");
        });
    }

    /** With 120 rows, the most that there can be, each call that goes through them still answers. */
    private static void everyRow() {
        T.of("Limits", "its table has at most 40 of its own", () -> {
            for (int tenant = 0; tenant < 3; tenant++) {
                T.answered("limit(" + tenant + ", false, 40)", "mean(" + tenant + ", 1, 0)",
                    "mean(" + tenant + ", 0, 0)", "move(" + tenant + ")");
                T.times(40, "row(" + tenant + ")");
                T.due(-2, "row(" + tenant + ")");
            }
            T.row("count(#)", 0, 120, 0, 2, 6, 0, 3, 6);
            T.due(0, "put(119, 0, 9)");
            T.thrown(Sentences.BOUNDS, "put(120, 0, 9)", "rowOf(120, 0)", "remove(120)");
            T.type("a>-9999");
            T.due(1, "ask(2)");
            T.due(40, "looked(2, false)");
            T.due(119, "answer(2, 0, 0)");
            T.due(0, "forget(2, 1)");
            T.due(1, "pack(2)");
            T.row("rowOf(119, #)", 2, 10009, -1);
            T.row("column(2, 0, #)", 0, 0, 0, 1, 1000009, 1);
            T.due(1, "purge(2)");
            T.due(119, "row(2)");
            T.due(-1, "rowOf(119, 1)");
            T.due(2, "remove(119)");
            T.due(0, "remove(0)");
            T.due(0, "move(0)");
            T.due(-3, "move(1)");
            T.due(118, "row(2)");
            T.due(5, "undo()");
        });
    }

    private static void reasonsOfOneAfterAnother() {
        T.of("Limits", "Something is refused, for the first of these reasons that is so", () -> {
            T.answered("mean(0, 0, 0)", "limit(0, true, 1)");
            T.due(-2, "mean(0, 0, 0)");
            T.answered("limit(0, true, 2)");
            T.due(-4, "mean(0, 0, 0)");
            T.times(20, "row(0)");
            T.times(20, "row(1)");
            T.due(-2, "row(0)");
            T.answered("limit(0, false, 21)");
            T.due(-3, "row(0)");
            T.due(-6, "put(0, 1, 9999)");
            T.due(-7, "put(0, 0, 9999)");
        });
    }

    // ---- the buffer

    private static void buffer() {
        T.of("Input text", "The buffer has at most 40 characters.", () -> {
            for (int length = 1; length <= 40; length++) {
                T.due(length, "append(33)");
            }
            T.thrown(Sentences.STATE, "append(33)", "append(126)");
            T.due(40, "clearBuffer()");
            T.due(1, "append(33)");
        });
    }

    private static void whole(String... texts) {
        for (String text : texts) {
            T.type(text);
            T.due(text.length(), "firstError()");
            T.answered("ask(0)");
        }
    }

    /** Each text is no question: it begins one, or its first syntax error is at the index that is told. */
    private static void broken(int index, String... texts) {
        for (String text : texts) {
            T.type(text);
            T.due(index, "firstError()");
            T.thrown(Sentences.ARGUMENT, "ask(0)", "purge(0)");
            T.due(-1, "looked(0, false)");
        }
    }

    private static void texts() {
        T.of("Input text", "A question as a text is one or more terms", () -> {
            broken(0, "");
            whole("a=1");
            whole("a=1&b=1&c=1&d=1&e=1&f=1&g=1&h=1&a=1&b=1", "a=9999&b=9999&c=9999&d=9999&e=9999&f=999");
            broken(40, "a=1&b=1&c=1&d=1&e=1&f=1&g=1&h=1&a=1&b=1&");
        });
        T.of("Input text", "with \"&\" between them", () -> {
            broken(0, "&", "&a=1");
            broken(3, "a=1,b=1", "a=1b=1", "a=1%b=1", "a=1'b=1");
            broken(4, "a=1&", "a=1&&b=1");
            whole("a=1&a=1");
        });
        T.of("Input text", "a letter, \"a\" to \"h\", \"=\", \"<\" or \">\"", () -> {
            whole("a=1", "h=1", "a<1", "h>1");
            broken(0, "`=1", "i=1", "A=1", "H=1", "=1", "1");
            broken(1, "a;1", "a?1", "aa=1", "a1", "a-1", "a!=1");
            broken(2, "a==1", "a<=1", "a>=1", "a<>1");
        });
        T.of("Input text", "perhaps \"-\"", () -> {
            whole("a=-1", "a<-0", "a>-9999", "a=1&b=-1");
            broken(3, "a=-", "a=--1", "a=-a", "a=1-");
            broken(2, "a=+1", "a=,1", "a=.1");
            broken(0, "-a=1");
        });
        T.of("Input text", "a number, 0 to 9999", () -> {
            whole("a=0", "a=9", "a=10", "a=999", "a=1000", "a=9999");
            broken(6, "a=10000", "a=99990", "a<12345", "a>10000&b=1");
            broken(7, "a=-10000");
            broken(2, "a=/", "a=:", "a=a", "a=", "a=&b=1");
        });
        T.of("Input text", "without leading zeros", () -> {
            whole("a=0", "a=-0", "a=100", "a=0&b=0");
            broken(3, "a=00", "a=01", "a=0001");
            broken(4, "a=-00", "a=-01");
            broken(7, "a=0&b=01");
        });
    }

    private static void syntaxErrors() {
        T.of("Input text", "a character is a syntax error if no question as a text, of any length, begins with the "
            + "characters before it and this character.", () -> {
                // What only begins a question has no error, and is no question.
                broken(0, "");
                broken(1, "a");
                broken(2, "a=");
                broken(3, "a=-");
                broken(4, "a=1&");
                broken(5, "a=1&b");
                // A question that would not fit into the buffer is begun.
                broken(40, "a=9999&a=9999&a=9999&a=9999&a=9999&a=99&", "a=1&b=1&c=1&d=1&e=1&f=1&g=1&h=1&a=1&b=1&");
            });
        T.of("Input text", "The buffer is read from left to right", () -> {
            broken(1, "ax=01");
            broken(3, "a=01&i");
        });
    }

    // ---- undo

    private static void undo() {
        T.of("Undo", "Each method that is marked \"undoable\" and does not throw an exception saves the state", () -> {
            T.answered("row(0)");
            T.thrown(Sentences.ARGUMENT, "mean(3, 0, 0)", "forget(0, 8)", "pack(3)", "index(3, 0)", "row(3)",
                "put(0, 8, 0)", "move(3)", "limit(0, true, 9)", "ask(0)", "purge(0)", "append(32)");
            T.thrown(Sentences.BOUNDS, "put(1, 0, 0)", "remove(1)", "rowOf(1, 0)");
            T.due(1, "count(7)");
            T.due(0, "undo()");
            T.due(0, "count(1)");
        });
        T.of("Undo", "also if it changes nothing", () -> {
            String[] idle = {"pack(0)", "limit(0, true, 5)", "limit(0, false, 20)", "purge(0)"};
            T.type("a=1");
            for (int i = 0; i < idle.length; i++) {
                T.answered(idle[i]);
                T.due(i + 1, "count(7)");
            }
            T.row("count(#)", 0, 0, 0, 0, 8, 0, 0, 4);
        });
        T.of("Undo", "or is refused", () -> {
            T.answered("row(0)", "limit(0, true, 0)", "limit(0, false, 0)");
            T.due(-2, "mean(0, 0, 0)");
            T.due(-2, "row(0)");
            T.due(-6, "put(0, 0, 0)");
            T.due(6, "count(7)");
            T.due(3, "tenant(0, 8)");
            T.due(5, "undo()");
            T.due(2, "tenant(0, 8)");
            T.due(-6, "forget(0, 0)");
            T.due(6, "count(7)");
            T.due(5, "undo()");
            T.due(-6, "index(0, 0)");
            T.due(6, "count(7)");
        });
        T.of("Undo", "all, also what is counted so far", () -> {
            T.answered("mean(0, 0, 0)", "row(0)", "put(0, 0, 1)");
            T.type("a=1");
            T.due(1, "ask(0)");
            T.due(-4, "mean(0, 0, 0)");
            T.row("tenant(0, #)", 1, 1, 20, 5, 0, 1, 1, 1, 1);
            T.due(4, "undo()");
            T.row("tenant(0, #)", 1, 1, 20, 5, 0, 1, 1, 1, 0);
            T.due(3, "undo()");
            T.row("tenant(0, #)", 1, 1, 20, 5, 0, 0, 0, 0, 0);
            T.due(2, "undo()");
            T.due(-1, "rowOf(0, 1)");
        });
    }

    private static void savedStates() {
        T.of("Undo", "but the buffer and the saved states", () -> {
            T.type("a=1");
            T.answered("row(0)", "append(50)", "row(0)", "append(38)");
            T.due(1, "undo()");
            T.due(1, "count(7)");
            T.due(0, "undo()");
            T.due(5, "firstError()");
            T.due(5, "clearBuffer()");
            T.answered("row(0)");
            T.due(0, "undo()");
            T.due(0, "clearBuffer()");
        });
        T.of("Undo", "At most 6 states are saved", () -> {
            T.times(6, "row(0)");
            T.due(6, "count(7)");
            T.times(3, "row(0)");
            T.due(6, "count(7)");
            T.times(6, "undo()");
            T.thrown(Sentences.STATE, "undo()");
            T.due(3, "count(1)");
        });
        T.of("Undo", "the oldest one is dropped first", () -> {
            for (int row = 0; row < 8; row++) {
                T.answered("row(" + row % 3 + ")");
            }
            for (int left = 5; left >= 0; left--) {
                T.due(left, "undo()");
                T.due(left + 2, "count(1)");
            }
            T.row("rowOf(#, 0)", 0, 1, Sentences.BOUNDS);
        });
    }

    // ---- exceptions

    private static void exceptions() {
        T.of("Exceptions", "A call that throws an exception changes nothing.", () -> {
            T.mixedRows();
            T.answered("index(0, 0)", "move(2)");
            T.type("a=1&");
            T.changingNothing("mean(3, 0, 0)", "mean(0, 8, 0)", "mean(0, 1, 3)", "forget(3, 0)", "forget(0, 8)",
                "pack(3)", "index(3, 0)", "index(0, 8)", "row(3)", "put(9, 0, 0)", "put(0, 8, 0)",
                "put(0, 0, 10000)", "remove(9)", "remove(-1)", "move(3)", "limit(3, true, 1)", "limit(0, true, 9)",
                "limit(0, false, 41)", "append(32)", "append(127)", "ask(0)", "ask(3)", "purge(0)", "purge(3)",
                "rowOf(9, 0)", "rowOf(0, 10)", "column(0, 8, 0)", "tenant(0, 9)", "answer(0, 0, -1)", "count(8)",
                "looked(3, true)", "bestIndex(3)");
            T.due(5, "undo()");
            T.due(0, "tenant(2, 4)");
        });
        T.of("Exceptions", "If several exceptions apply, the one that is named first in the throws clause is thrown.",
            () -> {
                T.answered("row(0)");
                T.thrown(Sentences.BOUNDS, "put(1, 8, 0)", "put(-1, -1, 0)", "put(1, 0, 10000)", "put(1, 8, -10000)",
                    "rowOf(1, 10)", "rowOf(-1, -1)");
                T.thrown(Sentences.ARGUMENT, "put(0, 8, 10000)", "rowOf(0, 10)");
                T.times(40, "append(97)");
                T.thrown(Sentences.ARGUMENT, "append(32)", "append(127)");
                T.thrown(Sentences.STATE, "append(97)");
            });
        T.of("Exceptions", "`NONE = -1`: There is nothing to return.", () -> {
            T.compare(-1, "NONE", SharedColumns.NONE);
            T.due(-1, "answer(0, " + SharedColumns.NONE + ", 0)");
            T.due(-1, "bestIndex(0)");
        });
        T.of("Exceptions", "the interface says: ---- looks; nothing is changed.", () -> {
            T.mixedRows();
            T.type("a>1&a<8");
            T.changingNothing("rowOf(8, 1)", "column(0, 0, 5)", "tenant(0, 6)", "answer(0, -1, 0)", "answer(0, 0, 9)",
                "answer(2, 7, 1)", "count(7)");
        });
        T.of("Exceptions", "the interface says: ---- what would be; nothing is changed.", () -> {
            T.mixedRows();
            T.type("a=1");
            T.changingNothing("looked(0, true)", "looked(1, false)", "bestIndex(0)", "fullness()", "digest()");
            T.due(6, "count(7)");
        });
    }
}
