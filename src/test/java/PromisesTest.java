import java.util.Objects;

/**
 * Promises 1 to 24 by examples: ordinary inputs, the edges that the document names, wrong inputs. No object is used
 * for more than 512 calls; digest (25), which tells all that the other calls tell, is in PromisesBoundaryTest.
 */
public final class PromisesTest {
    private static final String ARGUMENT = "IllegalArgumentException";
    private static final String STATE = "IllegalStateException";
    private static final String BOUNDS = "IndexOutOfBoundsException";

    private static int wrong = 0;
    private static String part = "";

    private interface Call {
        Object answer();
    }

    private static void due(Object want, String told, Call call) {
        Object got;
        try {
            got = call.answer();
        } catch (RuntimeException e) {
            got = e.getClass().getSimpleName();
        }
        if (!Objects.equals(got, want)) {
            wrong++;
            System.out.println(part + ": " + told + " answered " + got + ", due is " + want);
        }
    }

    private static SharedColumns x;

    private static void fresh(String name) {
        part = name;
        x = new SharedColumns();
    }

    private static void text(String text) {
        x.clearBuffer();
        for (int i = 0; i < text.length(); i++) {
            x.append(text.charAt(i));
        }
    }

    private static void rows(int tenant, int many) {
        for (int i = 0; i < many; i++) {
            x.row(tenant);
        }
    }

    public static void main(String[] args) {
        aNewObject();
        mean();
        forget();
        pack();
        index();
        row();
        put();
        remove();
        move();
        limit();
        append();
        clearBuffer();
        firstError();
        ask();
        purge();
        undo();
        rowOf();
        column();
        tenant();
        answer();
        count();
        looked();
        bestIndex();
        fullness();
        throwingChangesNothing();
        everyRow();
        System.out.println(wrong == 0 ? "all answers are as due" : wrong + " answers are not as due");
        if (wrong != 0) {
            System.exit(1);
        }
    }

    private static void aNewObject() {
        fresh("1 new object");
        int[] counts = {0, 0, 0, 0, 8, 0, 0, 0};
        for (int what = 0; what < 8; what++) {
            int w = what;
            due(counts[w], "count(" + w + ")", () -> x.count(w));
        }
        int[] numbers = {0, 0, 20, 5, 0, 0, 0, 0, 0};
        for (int what = 0; what < 27; what++) {
            int w = what;
            due(numbers[w % 9], "tenant " + w, () -> x.tenant(w / 9, w % 9));
        }
        due(-1, "column(2, 7, 0)", () -> x.column(2, 7, 0));
        due(0, "clearBuffer()", () -> x.clearBuffer());
        due(STATE, "undo()", () -> x.undo());
        due(-1, "NONE", () -> SharedColumns.NONE);
    }

    private static void mean() {
        fresh("2 mean");
        due(0, "mean(1, 7, 2)", () -> x.mean(1, 7, 2));
        due(1, "mean(1, 0, 0)", () -> x.mean(1, 0, 0));
        due(-4, "mean(1, 7, 0): the letter is taken", () -> x.mean(1, 7, 0));
        due(0, "mean(2, 7, 1): other tenants do not matter", () -> x.mean(2, 7, 1));
        due(2, "mean(1, 2, 0)", () -> x.mean(1, 2, 0));
        x.forget(1, 0);
        due(1, "mean(1, 3, 0): the lowest spare one", () -> x.mean(1, 3, 0));
        x.mean(1, 4, 0);
        due(4, "mean(1, 5, 0)", () -> x.mean(1, 5, 0));
        due(-2, "mean(1, 6, 0): the limit is reached", () -> x.mean(1, 6, 0));
        due(-2, "mean(1, 7, 0): the limit comes first", () -> x.mean(1, 7, 0));
        x.limit(1, true, 8);
        due(5, "mean(1, 6, 0)", () -> x.mean(1, 6, 0));
        due(6, "mean(1, 0, 0)", () -> x.mean(1, 0, 0));
        due(7, "mean(1, 1, 0)", () -> x.mean(1, 1, 0));
        due(-2, "mean(1, 1, 0): all columns", () -> x.mean(1, 1, 0));
        due(4, "refusals", () -> x.tenant(1, 8));
        x.limit(1, true, 3);
        due(8, "meanings over a limit stay", () -> x.tenant(1, 1));
        due(-2, "mean(1, 1, 0): over the limit", () -> x.mean(1, 1, 0));
        x.limit(0, true, 0);
        due(-2, "mean(0, 0, 0): a limit of 0", () -> x.mean(0, 0, 0));
        due(ARGUMENT, "tenant -1", () -> x.mean(-1, 0, 0));
        due(ARGUMENT, "tenant 3", () -> x.mean(3, 0, 0));
        due(ARGUMENT, "letter -1", () -> x.mean(0, -1, 0));
        due(ARGUMENT, "letter 8", () -> x.mean(0, 8, 0));
        due(ARGUMENT, "kind -1", () -> x.mean(0, 0, -1));
        due(ARGUMENT, "kind 3", () -> x.mean(0, 0, 3));
    }

    private static void forget() {
        fresh("3 forget");
        due(-6, "forget(0, 0): it means nothing", () -> x.forget(0, 0));
        due(1, "refusals", () -> x.tenant(0, 8));
        x.mean(0, 3, 0);
        x.mean(0, 4, 0);
        x.mean(1, 3, 0);
        rows(0, 3);
        rows(1, 1);
        x.put(0, 3, 5);
        x.put(2, 3, 5);
        x.put(2, 4, 6);
        x.put(3, 3, 7);
        x.index(0, 3);
        due(2, "forget(0, 3)", () -> x.forget(0, 3));
        due(-1, "its column is spare", () -> x.column(0, 0, 0));
        due(0, "no index is left", () -> x.count(5));
        due(-1, "its value is gone", () -> x.rowOf(2, 1));
        due(10006, "the other column's value stands", () -> x.rowOf(2, 2));
        due(10007, "the other tenant's value stands", () -> x.rowOf(3, 1));
        due(-6, "forget(0, 3) again", () -> x.forget(0, 3));
        due(0, "mean(0, 5, 1)", () -> x.mean(0, 5, 1));
        due(0, "the new meaning has no values", () -> x.column(0, 0, 3));
        due(0, "the new meaning has no index", () -> x.column(0, 0, 2));
        x.move(0);
        due(1, "forget(0, 4) of a tenant that has moved", () -> x.forget(0, 4));
        due(0, "forget(0, 5) without values", () -> x.forget(0, 5));
        due(ARGUMENT, "tenant -1", () -> x.forget(-1, 0));
        due(ARGUMENT, "tenant 3", () -> x.forget(3, 0));
        due(ARGUMENT, "letter -1", () -> x.forget(0, -1));
        due(ARGUMENT, "letter 8", () -> x.forget(0, 8));
    }

    private static void pack() {
        fresh("4 pack");
        due(0, "pack(0) of nothing", () -> x.pack(0));
        x.limit(0, true, 8);
        for (int letter = 0; letter < 8; letter++) {
            x.mean(0, 7 - letter, letter % 3);
        }
        x.mean(1, 6, 0);
        x.mean(1, 5, 0);
        rows(0, 1);
        rows(1, 1);
        x.put(0, 5, 50);
        x.put(0, 2, 20);
        x.put(0, 0, 1);
        x.put(1, 5, 9);
        x.index(0, 2);
        x.forget(0, 7);
        x.forget(0, 6);
        x.forget(0, 4);
        x.forget(1, 6);
        due(0, "pack(2)", () -> x.pack(2));
        due(5, "pack(0)", () -> x.pack(0));
        int[] letters = {5, 3, 2, 1, 0, -1, -1, -1};
        int[] kinds = {2, 1, 2, 0, 1, -1, -1, -1};
        int[] indexes = {0, 0, 1, 0, 0, -1, -1, -1};
        int[] values = {10050, -1, 10020, -1, 10001, -1, -1, -1};
        for (int column = 0; column < 8; column++) {
            int c = column;
            due(letters[c], "letter in " + c, () -> x.column(0, c, 0));
            due(kinds[c], "kind in " + c, () -> x.column(0, c, 1));
            due(indexes[c], "index of " + c, () -> x.column(0, c, 2));
            due(values[c], "value in " + c, () -> x.rowOf(0, c + 1));
        }
        due(1, "indexes", () -> x.count(5));
        due(10009, "the other tenant is not packed", () -> x.rowOf(1, 2));
        due(0, "pack(0) again", () -> x.pack(0));
        x.forget(0, 1);
        x.move(0);
        due(1, "pack(0) of a tenant that has moved", () -> x.pack(0));
        due(1, "pack(1)", () -> x.pack(1));
        due(10009, "the other tenant is packed", () -> x.rowOf(0, 1));
        due(ARGUMENT, "tenant -1", () -> x.pack(-1));
        due(ARGUMENT, "tenant 3", () -> x.pack(3));
    }

    private static void index() {
        fresh("5 index");
        due(-6, "index(2, 0)", () -> x.index(2, 0));
        due(1, "refusals", () -> x.tenant(2, 8));
        x.mean(2, 0, 0);
        x.mean(1, 0, 0);
        due(1, "index(2, 0)", () -> x.index(2, 0));
        due(1, "column(2, 0, 2)", () -> x.column(2, 0, 2));
        due(0, "column(1, 0, 2): it is of one tenant", () -> x.column(1, 0, 2));
        due(0, "index(2, 0) takes it away", () -> x.index(2, 0));
        due(0, "column(2, 0, 2)", () -> x.column(2, 0, 2));
        due(ARGUMENT, "tenant -1", () -> x.index(-1, 0));
        due(ARGUMENT, "tenant 3", () -> x.index(3, 0));
        due(ARGUMENT, "letter -1", () -> x.index(0, -1));
        due(ARGUMENT, "letter 8", () -> x.index(0, 8));
    }

    private static void row() {
        fresh("6 row");
        due(0, "row(1)", () -> x.row(1));
        due(1, "row(0)", () -> x.row(0));
        due(2, "row(1)", () -> x.row(1));
        due(0, "it has no values", () -> x.rowOf(2, 9));
        rows(0, 19);
        due(-2, "row(0): the limit", () -> x.row(0));
        rows(2, 18);
        due(40, "count(0)", () -> x.count(0));
        due(-3, "row(1): the table is full", () -> x.row(1));
        due(-2, "row(0): the limit comes first", () -> x.row(0));
        due(2, "refusals", () -> x.tenant(0, 8));
        x.move(0);
        due(-2, "row(0): the limit of a tenant that has moved", () -> x.row(0));
        x.limit(0, false, 40);
        due(40, "row(0) behind its own", () -> x.row(0));
        due(20, "row(1) behind the table", () -> x.row(1));
        rows(2, 2);
        rows(1, 17);
        due(40, "count(0)", () -> x.count(0));
        due(-2, "row(2): the limit", () -> x.row(2));
        x.limit(2, false, 21);
        due(-3, "row(2): the table is full", () -> x.row(2));
        due(61, "row(0): a full table does not matter", () -> x.row(0));
        rows(0, 18);
        due(40, "rows of 0", () -> x.tenant(0, 0));
        due(-2, "row(0): 40 of its own", () -> x.row(0));
        x.move(1);
        x.move(2);
        due(80, "count(1)", () -> x.count(1));
        x.limit(1, false, 21);
        due(60, "row(1) ahead of those of 2", () -> x.row(1));
        due(1, "its tenant", () -> x.rowOf(60, 0));
        due(2, "the next one's tenant", () -> x.rowOf(61, 0));
        due(ARGUMENT, "tenant -1", () -> x.row(-1));
        due(ARGUMENT, "tenant 3", () -> x.row(3));

        fresh("6 row, all rows");
        for (int tenant = 0; tenant < 3; tenant++) {
            x.limit(tenant, false, 40);
            x.move(tenant);
            rows(tenant, 40);
        }
        due(120, "count(1)", () -> x.count(1));
        due(0, "count(0)", () -> x.count(0));
        due(-2, "row(0)", () -> x.row(0));
        due(2, "rowOf(119, 0)", () -> x.rowOf(119, 0));
        due(BOUNDS, "rowOf(120, 0)", () -> x.rowOf(120, 0));
        due(0, "move(1) back", () -> x.move(1));
        due(-3, "move(2): the table is full", () -> x.move(2));
        due(1, "the first rows are of 1", () -> x.rowOf(39, 0));
        due(0, "then those of 0", () -> x.rowOf(40, 0));
    }

    private static void put() {
        fresh("7 put");
        x.mean(0, 0, 0);
        x.mean(0, 1, 1);
        x.mean(0, 2, 2);
        rows(0, 1);
        rows(1, 1);
        int[][] fitting = {{0, -999}, {0, 999}, {1, 0}, {1, 1}, {2, 0}, {2, 3650}};
        int[][] unfit = {{0, -1000}, {0, 1000}, {0, 9999}, {1, -1}, {1, 2}, {2, -1}, {2, 3651}, {2, -9999}};
        for (int i = 0; i < fitting.length; i++) {
            int[] pair = fitting[i];
            due(i % 2, "put " + pair[0] + " " + pair[1], () -> x.put(0, pair[0], pair[1]));
            due(10000 + pair[1], "its value", () -> x.rowOf(0, pair[0] + 1));
        }
        for (int[] pair : unfit) {
            due(-7, "put " + pair[0] + " " + pair[1], () -> x.put(0, pair[0], pair[1]));
        }
        due(10999, "a refused value does not stand", () -> x.rowOf(0, 1));
        due(-6, "put(0, 3, 9999): the meaning comes first", () -> x.put(0, 3, 9999));
        due(-6, "put(1, 0, 0): by the meanings of its tenant", () -> x.put(1, 0, 0));
        due(9, "refusals of 0", () -> x.tenant(0, 8));
        due(1, "refusals of 1", () -> x.tenant(1, 8));
        due(0, "refusals of 2", () -> x.tenant(2, 8));
        x.move(0);
        due(1, "put(1, 0, 7): of a tenant that has moved", () -> x.put(1, 0, 7));
        due(10007, "its value", () -> x.rowOf(1, 1));
        due(BOUNDS, "row -1", () -> x.put(-1, 0, 0));
        due(BOUNDS, "row 2", () -> x.put(2, 0, 0));
        due(BOUNDS, "row 2 and letter 8", () -> x.put(2, 8, 10000));
        due(ARGUMENT, "letter -1", () -> x.put(0, -1, 0));
        due(ARGUMENT, "letter 8", () -> x.put(0, 8, 0));
        due(ARGUMENT, "value 10000", () -> x.put(0, 0, 10000));
        due(ARGUMENT, "value -10000", () -> x.put(0, 0, -10000));
    }

    private static void remove() {
        fresh("8 remove");
        due(BOUNDS, "remove(0)", () -> x.remove(0));
        x.mean(0, 0, 0);
        x.mean(1, 0, 0);
        rows(0, 2);
        rows(1, 2);
        for (int row = 0; row < 4; row++) {
            x.put(row, 0, row);
        }
        due(0, "remove(1)", () -> x.remove(1));
        due(10002, "the next one has its number", () -> x.rowOf(1, 1));
        due(10000, "the one ahead stands", () -> x.rowOf(0, 1));
        due(1, "remove(2)", () -> x.remove(2));
        due(2, "count(1)", () -> x.count(1));
        due(2, "row(0)", () -> x.row(0));
        due(0, "a new row has none of the old values", () -> x.rowOf(2, 9));
        text("a>-1");
        x.ask(0);
        x.move(1);
        due(1, "remove(2) of a tenant that has moved", () -> x.remove(2));
        due(0, "remove(0) behind a question", () -> x.remove(0));
        due(1, "the other answer stands", () -> x.count(1));
        x.undo();
        due(BOUNDS, "remove(2)", () -> x.remove(2));
        due(BOUNDS, "remove(-1)", () -> x.remove(-1));
    }

    private static void move() {
        fresh("9 move");
        for (int tenant = 0; tenant < 3; tenant++) {
            x.mean(tenant, 0, 0);
        }
        for (int row = 0; row < 9; row++) {
            x.row(row % 3);
            x.put(row, 0, row);
        }
        due(1, "move(1)", () -> x.move(1));
        values("moved 1", 0, 2, 3, 5, 6, 8, 1, 4, 7);
        due(1, "move(0)", () -> x.move(0));
        values("moved 0 and 1", 2, 5, 8, 0, 3, 6, 1, 4, 7);
        due(0, "move(1) back", () -> x.move(1));
        values("moved 0", 2, 5, 8, 1, 4, 7, 0, 3, 6);
        due(0, "move(0) back", () -> x.move(0));
        values("moved none", 2, 5, 8, 1, 4, 7, 0, 3, 6);
        due(1, "move(2)", () -> x.move(2));
        x.limit(0, false, 40);
        x.limit(1, false, 40);
        rows(0, 17);
        rows(1, 15);
        due(38, "count(0)", () -> x.count(0));
        due(-3, "move(2): 41 rows", () -> x.move(2));
        due(1, "refusals", () -> x.tenant(2, 8));
        due(1, "it has moved still", () -> x.tenant(2, 4));
        x.remove(0);
        due(0, "move(2): 40 rows", () -> x.move(2));
        due(40, "count(0)", () -> x.count(0));
        due(10002, "its rows are the last", () -> x.rowOf(37, 1));
        due(ARGUMENT, "tenant -1", () -> x.move(-1));
        due(ARGUMENT, "tenant 3", () -> x.move(3));
    }

    private static void values(String told, int... values) {
        for (int row = 0; row < values.length; row++) {
            int r = row;
            due(10000 + values[r], told + ", row " + r, () -> x.rowOf(r, 1));
            due(values[r] % 3, told + ", tenant of row " + r, () -> x.rowOf(r, 0));
        }
    }

    private static void limit() {
        fresh("10 limit");
        due(5, "limit(0, true, 8)", () -> x.limit(0, true, 8));
        due(8, "limit(0, true, 0)", () -> x.limit(0, true, 0));
        due(20, "limit(0, false, 40)", () -> x.limit(0, false, 40));
        due(40, "limit(0, false, 0)", () -> x.limit(0, false, 0));
        due(20, "limit(2, false, 1)", () -> x.limit(2, false, 1));
        due(0, "row(2)", () -> x.row(2));
        due(-2, "row(2)", () -> x.row(2));
        due(0, "tenant(0, 2)", () -> x.tenant(0, 2));
        due(0, "tenant(0, 3)", () -> x.tenant(0, 3));
        due(0, "no refusal", () -> x.tenant(0, 8));
        due(ARGUMENT, "tenant -1", () -> x.limit(-1, true, 1));
        due(ARGUMENT, "tenant 3", () -> x.limit(3, false, 1));
        due(ARGUMENT, "columns 9", () -> x.limit(0, true, 9));
        due(ARGUMENT, "columns -1", () -> x.limit(0, true, -1));
        due(ARGUMENT, "rows 41", () -> x.limit(0, false, 41));
        due(ARGUMENT, "rows -1", () -> x.limit(0, false, -1));
    }

    private static void append() {
        fresh("11 append");
        for (int i = 1; i <= 40; i++) {
            int length = i;
            due(length, "append " + length, () -> x.append(length % 2 == 0 ? 33 : 126));
        }
        due(STATE, "append(97)", () -> x.append(97));
        due(ARGUMENT, "append(32), full", () -> x.append(32));
        due(40, "clearBuffer()", () -> x.clearBuffer());
        due(ARGUMENT, "append(32)", () -> x.append(32));
        due(ARGUMENT, "append(127)", () -> x.append(127));
        due(ARGUMENT, "append(-1)", () -> x.append(-1));
        due(1, "append(33)", () -> x.append(33));
        due(0, "it is not undoable", () -> x.count(7));
    }

    private static void clearBuffer() {
        fresh("12 clearBuffer");
        due(0, "clearBuffer()", () -> x.clearBuffer());
        text("a=1");
        due(3, "clearBuffer()", () -> x.clearBuffer());
        due(0, "clearBuffer()", () -> x.clearBuffer());
        due(0, "firstError()", () -> x.firstError());
        due(0, "it is not undoable", () -> x.count(7));
    }

    private static void firstError() {
        fresh("13 firstError");
        String[] whole = {"a=0", "h>9999", "c<-0", "d=-9999", "a=1&a=1", "a=100&b>-20&c<3",
            "a=1&b=1&c=1&d=1&e=1&f=1&g=1&h=1&a=1&b=1", "a=1&b=1&c=1&d=1&e=1&f=1&g=1&h=1&a=1&b=12"};
        for (String text : whole) {
            text(text);
            due(text.length(), "firstError of " + text, () -> x.firstError());
            due(0, "ask " + text, () -> x.ask(0));
        }
        String[] begun = {"", "a", "a=", "a<", "a>-", "a=1&", "a=1&b", "a=-12&h<",
            "a=1&b=1&c=1&d=1&e=1&f=1&g=1&h=1&a=1&b=1&", "a=9999&a=9999&a=9999&a=9999&a=9999&a=99&"};
        fresh("13 firstError, begun");
        for (String text : begun) {
            text(text);
            due(x.clearBuffer(), "firstError of " + text, () -> {
                text(text);
                return x.firstError();
            });
            due(ARGUMENT, "ask " + text, () -> x.ask(0));
        }
        // The index of the first wrong character stands ahead of each text.
        String[] broken = {"0i=1", "0A=1", "0`=1", "0=1", "0&", "01", "1a1", "1ab", "1a&", "1a!=1", "2a==1", "2a=>1",
            "2a=&", "2a=b", "2a=+1", "3a=--1", "3a=-&", "3a=-a", "3a=01", "4a=-01", "3a=00", "3a=0-", "3a=1-", "3a=1=",
            "3a=1a", "6a=12345", "7a=-10000", "3a=1|b=1", "4a=1&&b=1", "4a=1&=", "4a=1&1", "7a=1&b=1/", "7a=1&b=1:",
            "2a=/", "2a=:"};
        fresh("13 firstError, broken");
        for (String indexed : broken) {
            text(indexed.substring(1));
            due(indexed.charAt(0) - '0', "firstError of " + indexed.substring(1), () -> x.firstError());
            due(ARGUMENT, "ask " + indexed.substring(1), () -> x.ask(0));
            due(-1, "looked " + indexed.substring(1), () -> x.looked(0, false));
        }
    }

    /** Rows 0 to 9, of tenants 0 and 1 in turn; "a" in column 0 has row / 4, "b" the row, but for row 8. */
    private static void asked(String name) {
        fresh(name);
        for (int tenant = 0; tenant < 2; tenant++) {
            x.mean(tenant, 0, 0);
            x.mean(tenant, 1, 2);
        }
        for (int row = 0; row < 10; row++) {
            x.row(row % 2);
            x.put(row, 0, row / 4);
            if (row != 8) {
                x.put(row, 1, row);
            }
        }
    }

    private static void ask() {
        asked("14 ask");
        askFor(0, "a=0", 2);
        askFor(0, "a=-0", 2);
        askFor(0, "a>-1", 5);
        askFor(0, "a<1", 2);
        askFor(0, "a>0&b<6", 1);
        askFor(0, "b>0", 3);
        askFor(0, "b<9999", 4);
        askFor(0, "c=0", 0);
        askFor(0, "c<9", 0);
        askFor(2, "a=0", 0);
        askFor(1, "a=1&a=0", 0);
        askFor(1, "a=1&b>6", 1);
        due(9, "questions of 0", () -> x.tenant(0, 5));
        due(2, "questions of 1", () -> x.tenant(1, 5));
        due(1, "questions of 2", () -> x.tenant(2, 5));
        due(90, "rows that were looked at for 0", () -> x.tenant(0, 6));
        due(19, "answers of 0", () -> x.tenant(0, 7));
        due(1, "answers of 1", () -> x.tenant(1, 7));
        x.index(0, 1);
        askFor(0, "a=0&b=2", 1);
        due(91, "rows that were looked at with an index", () -> x.tenant(0, 6));
        x.move(1);
        askFor(1, "a=2", 1);
        due(25, "rows that were looked at, moved", () -> x.tenant(1, 6));
        askFor(0, "a=2", 1);
        due(96, "rows of a smaller table", () -> x.tenant(0, 6));
        due(ARGUMENT, "tenant -1", () -> x.ask(-1));
        due(ARGUMENT, "tenant 3", () -> x.ask(3));
        x.clearBuffer();
        due(ARGUMENT, "no question", () -> x.ask(0));
        due(0, "no refusals", () -> x.tenant(0, 8));
    }

    private static void askFor(int tenant, String text, int answers) {
        text(text);
        due(answers, "ask(" + tenant + ") " + text, () -> x.ask(tenant));
    }

    private static void purge() {
        asked("15 purge");
        text("a=0");
        due(2, "purge(0)", () -> x.purge(0));
        due(8, "count(1)", () -> x.count(1));
        due(3, "rows of 0", () -> x.tenant(0, 0));
        due(5, "rows of 1", () -> x.tenant(1, 0));
        due(10003, "the order stands", () -> x.rowOf(1, 2));
        due(10004, "the order stands", () -> x.rowOf(2, 2));
        due(0, "purge(0) again", () -> x.purge(0));
        due(0, "it is not counted", () -> x.tenant(0, 5) + x.tenant(0, 6) + x.tenant(0, 7));
        x.move(1);
        text("b>4");
        due(3, "purge(1), moved", () -> x.purge(1));
        due(2, "rows of 1", () -> x.tenant(1, 0));
        due(3, "rows of 0", () -> x.tenant(0, 0));
        due(0, "purge(2)", () -> x.purge(2));
        due(ARGUMENT, "tenant -1", () -> x.purge(-1));
        due(ARGUMENT, "tenant 3", () -> x.purge(3));
        text("b>");
        due(ARGUMENT, "no question", () -> x.purge(0));
    }

    private static void undo() {
        fresh("16 undo");
        due(STATE, "undo()", () -> x.undo());
        x.mean(0, 0, 0);
        x.row(0);
        x.put(0, 0, 5);
        x.put(0, 0, 6);
        text("a=6");
        x.ask(0);
        due(1, "questions", () -> x.tenant(0, 5));
        due(4, "undo() of ask", () -> x.undo());
        due(0, "questions", () -> x.tenant(0, 5));
        due(3, "the buffer stands", () -> x.clearBuffer());
        due(3, "undo() of put", () -> x.undo());
        due(10005, "the value from before", () -> x.rowOf(0, 1));
        due(2, "undo() of put", () -> x.undo());
        due(-1, "no value", () -> x.rowOf(0, 1));
        due(0, "put again", () -> x.put(0, 0, 7));
        due(2, "undo()", () -> x.undo());
        due(1, "undo() of row", () -> x.undo());
        due(BOUNDS, "rowOf(0, 0)", () -> x.rowOf(0, 0));
        due(0, "undo() of mean", () -> x.undo());
        due(-1, "column(0, 0, 0)", () -> x.column(0, 0, 0));
        due(STATE, "undo()", () -> x.undo());
        // Each of the undoable ones saves, also if it is refused or changes nothing.
        x.mean(0, 0, 0);
        x.mean(0, 0, 0);
        due(1, "undo() of a refusal", () -> x.undo());
        due(0, "refusals", () -> x.tenant(0, 8));
        x.pack(0);
        x.limit(0, true, 5);
        text("a=1");
        x.purge(0);
        x.forget(1, 0);
        x.index(1, 0);
        due(6, "saved states", () -> x.count(7));
        x.move(0);
        x.limit(0, false, 0);
        x.row(0);
        due(6, "saved states", () -> x.count(7));
        for (int left = 5; left >= 0; left--) {
            int l = left;
            due(l, "undo()", () -> x.undo());
        }
        due(STATE, "the oldest ones are dropped", () -> x.undo());
        due(1, "the oldest state has the meaning", () -> x.tenant(0, 1));
        due(0, "moved no more", () -> x.tenant(0, 4));
        due(20, "the limit from before", () -> x.tenant(0, 2));
        due(0, "refusals of 1", () -> x.tenant(1, 8));
        x.row(2);
        x.remove(0);
        due(1, "undo() of remove", () -> x.undo());
        due(2, "the row is back", () -> x.rowOf(0, 0));
        undoOfNumbers();
    }

    private static void undoOfNumbers() {
        fresh("16 undo, numbers");
        x.row(0);
        text("a=1");
        x.ask(0);
        x.limit(0, false, 1);
        x.limit(0, true, 1);
        x.row(0);
        int[] before = new int[9];
        for (int what = 0; what < 9; what++) {
            before[what] = x.tenant(0, what);
        }
        x.ask(0);
        x.limit(0, false, 2);
        x.limit(0, true, 2);
        x.row(0);
        x.move(0);
        x.mean(0, 0, 0);
        for (int left = 5; left >= 0; left--) {
            int l = left;
            due(l, "undo()", () -> x.undo());
        }
        for (int what = 0; what < 9; what++) {
            int w = what;
            due(before[w], "tenant(0, " + w + ")", () -> x.tenant(0, w));
        }
    }

    private static void rowOf() {
        fresh("17 rowOf");
        due(BOUNDS, "rowOf(0, 0)", () -> x.rowOf(0, 0));
        due(BOUNDS, "rowOf(0, 10): the row comes first", () -> x.rowOf(0, 10));
        x.limit(1, true, 8);
        for (int letter = 0; letter < 8; letter++) {
            x.mean(1, letter, 0);
        }
        x.row(1);
        x.put(0, 0, -999);
        x.put(0, 7, 999);
        x.put(0, 3, 0);
        int[] due = {1, 9001, -1, -1, 10000, -1, -1, -1, 10999, 3};
        for (int what = 0; what < 10; what++) {
            int w = what;
            due(due[w], "rowOf(0, " + w + ")", () -> x.rowOf(0, w));
        }
        due(ARGUMENT, "rowOf(0, -1)", () -> x.rowOf(0, -1));
        due(ARGUMENT, "rowOf(0, 10)", () -> x.rowOf(0, 10));
        due(BOUNDS, "rowOf(-1, 0)", () -> x.rowOf(-1, 0));
        due(BOUNDS, "rowOf(1, 0)", () -> x.rowOf(1, 0));
    }

    private static void column() {
        fresh("18 column");
        x.mean(0, 6, 0);
        x.mean(1, 5, 2);
        rows(0, 5);
        rows(1, 1);
        int[] values = {-999, -999, 7, -999};
        for (int row = 0; row < 4; row++) {
            x.put(row, 6, values[row]);
        }
        x.put(5, 5, 3650);
        x.index(0, 6);
        int[] due = {6, 0, 1, 4, 1000000 - 2990, 2};
        int[] dueOfOther = {5, 2, 0, 1, 1003650, 1};
        for (int what = 0; what < 6; what++) {
            int w = what;
            due(due[w], "column(0, 0, " + w + ")", () -> x.column(0, 0, w));
            due(dueOfOther[w], "column(1, 0, " + w + ")", () -> x.column(1, 0, w));
            due(-1, "column(0, 1, " + w + ")", () -> x.column(0, 1, w));
            due(-1, "column(2, 0, " + w + ")", () -> x.column(2, 0, w));
        }
        x.move(0);
        due(2, "unlike values, moved", () -> x.column(0, 0, 5));
        due(ARGUMENT, "tenant -1", () -> x.column(-1, 0, 0));
        due(ARGUMENT, "tenant 3", () -> x.column(3, 0, 0));
        due(ARGUMENT, "column -1", () -> x.column(0, -1, 0));
        due(ARGUMENT, "column 8", () -> x.column(0, 8, 0));
        due(ARGUMENT, "what -1", () -> x.column(0, 0, -1));
        due(ARGUMENT, "what 6", () -> x.column(0, 0, 6));
        due(ARGUMENT, "what 6 of a spare one", () -> x.column(0, 5, 6));
    }

    private static void tenant() {
        asked("19 tenant");
        x.limit(0, false, 7);
        x.limit(0, true, 2);
        x.mean(0, 5, 0);
        text("a=0");
        x.ask(0);
        x.ask(0);
        x.move(0);
        x.ask(0);
        int[] due = {5, 2, 7, 2, 1, 3, 25, 6, 1};
        int[] dueOfOther = {5, 2, 20, 5, 0, 0, 0, 0, 0};
        for (int what = 0; what < 9; what++) {
            int w = what;
            due(due[w], "tenant(0, " + w + ")", () -> x.tenant(0, w));
            due(dueOfOther[w], "tenant(1, " + w + ")", () -> x.tenant(1, w));
        }
        due(ARGUMENT, "tenant -1", () -> x.tenant(-1, 0));
        due(ARGUMENT, "tenant 3", () -> x.tenant(3, 0));
        due(ARGUMENT, "what -1", () -> x.tenant(0, -1));
        due(ARGUMENT, "what 9", () -> x.tenant(0, 9));
    }

    private static void answer() {
        fresh("20 answer");
        x.mean(0, 0, 0);
        x.mean(0, 1, 0);
        rows(1, 1);
        rows(0, 6);
        int[] second = {5, -3, 0, 5, 0, -3};
        for (int row = 1; row <= 6; row++) {
            x.put(row, 0, row);
            if (second[row - 1] != 0) {
                x.put(row, 1, second[row - 1]);
            }
        }
        text("a>0");
        answers(0, -1, 1, 2, 3, 4, 5, 6);
        answers(0, 0, 1, 2, 3, 4, 5, 6);
        answers(0, 1, 2, 6, 1, 4, 3, 5);
        answers(0, 7, 1, 2, 3, 4, 5, 6);
        answers(1, -1);
        answers(1, 0);
        text("a>0&a<5&b>-9");
        answers(0, 1, 2, 1, 4);
        x.move(0);
        answers(0, 1, 2, 1, 4);
        x.row(1);
        answers(0, 1, 3, 2, 5);
        due(-1, "the largest place", () -> x.answer(0, 1, Integer.MAX_VALUE));
        due(0, "questions", () -> x.tenant(0, 5));
        due(ARGUMENT, "tenant -1", () -> x.answer(-1, 0, 0));
        due(ARGUMENT, "tenant 3", () -> x.answer(3, 0, 0));
        due(ARGUMENT, "letter -2", () -> x.answer(0, -2, 0));
        due(ARGUMENT, "letter 8", () -> x.answer(0, 8, 0));
        due(ARGUMENT, "place -1", () -> x.answer(0, 0, -1));
        text("a>0&");
        due(-1, "no question", () -> x.answer(0, 0, 0));
        due(ARGUMENT, "no question, place -1", () -> x.answer(0, 0, -1));
    }

    private static void answers(int tenant, int letter, int... rows) {
        for (int place = 0; place < rows.length + 2; place++) {
            int p = place;
            due(p < rows.length ? rows[p] : -1, "answer(" + tenant + ", " + letter + ", " + p + ")",
                () -> x.answer(tenant, letter, p));
        }
    }

    private static void count() {
        asked("21 count");
        x.mean(2, 0, 0);
        x.mean(2, 1, 0);
        x.mean(2, 2, 0);
        x.mean(0, 2, 0);
        x.mean(0, 3, 0);
        x.index(0, 0);
        x.index(0, 1);
        x.index(1, 0);
        counts("at first", 10, 10, 19, 3, 4, 3, 0, 6);
        x.move(1);
        counts("moved 1", 5, 10, 9, 3, 4, 3, 1, 6);
        x.move(0);
        counts("moved 0 and 1", 0, 10, 0, 3, 4, 3, 2, 6);
        x.undo();
        counts("back", 5, 10, 9, 3, 4, 3, 1, 5);
        due(ARGUMENT, "count(-1)", () -> x.count(-1));
        due(ARGUMENT, "count(8)", () -> x.count(8));
    }

    private static void counts(String told, int... numbers) {
        for (int what = 0; what < numbers.length; what++) {
            int w = what;
            due(numbers[w], told + ", count(" + w + ")", () -> x.count(w));
        }
    }

    private static void looked() {
        asked("22 looked");
        lookedFor("a=0", 10, 5);
        x.index(0, 0);
        lookedFor("a=0", 2, 5);
        lookedFor("a=2", 1, 5);
        lookedFor("a=7", 0, 5);
        lookedFor("a<2", 10, 5);
        lookedFor("b=2", 10, 5);
        lookedFor("c=2", 10, 5);
        lookedFor("a=0&a=2", 1, 5);
        x.index(0, 1);
        lookedFor("a=0&b=2", 1, 5);
        lookedFor("b=2&a=0", 1, 5);
        lookedFor("b=1&a=0", 0, 5);
        x.row(0);
        lookedFor("a>0", 11, 6);
        text("a=0");
        due(11, "an index of another tenant does not matter", () -> x.looked(1, false));
        x.move(0);
        lookedFor("a=0", 6, 6);
        text("a=0");
        due(5, "the table without those that moved", () -> x.looked(1, false));
        due(0, "a tenant without rows", () -> x.looked(2, true));
        due(0, "nothing is counted", () -> x.tenant(0, 5) + x.tenant(0, 6) + x.tenant(0, 7));
        due(ARGUMENT, "tenant -1", () -> x.looked(-1, true));
        due(ARGUMENT, "tenant 3", () -> x.looked(3, false));
        text("a=");
        due(-1, "no question", () -> x.looked(0, false));
        due(-1, "no question, as if moved", () -> x.looked(0, true));
    }

    private static void lookedFor(String text, int now, int moved) {
        text(text);
        due(now, "looked now: " + text, () -> x.looked(0, false));
        due(moved, "looked if it had moved: " + text, () -> x.looked(0, true));
    }

    private static void bestIndex() {
        asked("23 bestIndex");
        best("a=0", 0);
        best("a<0", -1);
        best("c=0", -1);
        best("c=0&a=0", 0);
        best("a=0&b=2", 1);
        best("a=2&b=2", 0);
        best("b=2&a=2", 1);
        best("a=0&b>2", 0);
        best("a=0&b=2&a=2", 0);
        x.index(0, 0);
        best("a=0", -1);
        best("a=0&b=2", 1);
        best("a=2&b=2", -1);
        best("a=9&b=9", -1);
        x.index(0, 1);
        best("a=0&b=2", -1);
        x.index(0, 0);
        best("a=0&b=2", -1);
        best("a=7&b=2", 0);
        text("a=0");
        due(0, "another tenant", () -> x.bestIndex(1));
        due(-1, "a tenant without meanings", () -> x.bestIndex(2));
        x.move(0);
        best("a=7", -1);
        due(ARGUMENT, "tenant -1", () -> x.bestIndex(-1));
        due(ARGUMENT, "tenant 3", () -> x.bestIndex(3));
        text("a=0&");
        due(-1, "no question", () -> x.bestIndex(1));
    }

    private static void best(String text, int letter) {
        text(text);
        due(letter, "bestIndex(0): " + text, () -> x.bestIndex(0));
    }

    private static void fullness() {
        fresh("24 fullness");
        due(0.0, "no rows", () -> x.fullness());
        x.mean(0, 0, 0);
        rows(0, 3);
        rows(1, 2);
        due(0.0, "no values", () -> x.fullness());
        x.put(0, 0, 1);
        due(1.0 / 40.0, "one value of 40", () -> x.fullness());
        x.put(1, 0, 1);
        x.put(2, 0, 1);
        due(3.0 / 40.0, "3 values of 40", () -> x.fullness());
        x.move(1);
        due(3.0 / 24.0, "3 values of 24", () -> x.fullness());
        x.move(0);
        due(0.0, "no rows in the table", () -> x.fullness());

        fresh("24 fullness, full");
        x.limit(0, true, 8);
        x.row(0);
        for (int letter = 0; letter < 8; letter++) {
            x.mean(0, letter, 0);
            x.put(0, letter, 1);
        }
        due(1.0, "full", () -> x.fullness());
    }

    /** With 120 rows, the most there can be, each of the calls still answers. */
    private static void everyRow() {
        fresh("120 rows");
        for (int tenant = 0; tenant < 3; tenant++) {
            x.mean(tenant, 1, 0);
            x.mean(tenant, 0, 0);
            x.limit(tenant, false, 40);
            x.move(tenant);
            rows(tenant, 40);
        }
        for (int row = 0; row < 120; row++) {
            x.put(row, 0, row / 2);
        }
        text("a>-1");
        due(40, "ask(2)", () -> x.ask(2));
        due(119, "the last answer", () -> x.answer(2, 0, 39));
        due(-1, "no more answers", () -> x.answer(2, 0, 40));
        due(40, "looked(2, false)", () -> x.looked(2, false));
        due(40, "column(2, 1, 3)", () -> x.column(2, 1, 3));
        due(1000000 + 1980, "column(2, 1, 4)", () -> x.column(2, 1, 4));
        due(20, "column(2, 1, 5)", () -> x.column(2, 1, 5));
        due(0, "count(2)", () -> x.count(2));
        due(0, "forget(2, 1)", () -> x.forget(2, 1));
        due(1, "pack(2)", () -> x.pack(2));
        due(10059, "the value of the last row", () -> x.rowOf(119, 1));
        due(1, "index(2, 0)", () -> x.index(2, 0));
        due(-2, "row(2)", () -> x.row(2));
        due(1, "put(119, 0, 5)", () -> x.put(119, 0, 5));
        due(2, "remove(119)", () -> x.remove(119));
        due(119, "row(2)", () -> x.row(2));
        due(0, "its values", () -> x.rowOf(119, 9));
        due(0, "move(2)", () -> x.move(2));
        due(39, "count(2)", () -> x.count(2));
        due(39.0 / 320.0, "fullness()", () -> x.fullness());
        due(1, "move(2)", () -> x.move(2));
        due(5, "undo()", () -> x.undo());
        due(39, "purge(2)", () -> x.purge(2));
        due(81, "count(1)", () -> x.count(1));
    }

    private static void throwingChangesNothing() {
        asked("exceptions");
        text("a=0&b");
        x.undo();
        long before = x.digest();
        Call[] calls = {() -> x.mean(3, 0, 0), () -> x.forget(0, 8), () -> x.pack(3), () -> x.index(3, 0),
            () -> x.row(3), () -> x.put(99, 0, 0), () -> x.put(0, 8, 0), () -> x.remove(99), () -> x.move(3),
            () -> x.limit(0, true, 9), () -> x.append(32), () -> x.ask(0), () -> x.purge(0), () -> x.rowOf(0, 10),
            () -> x.column(0, 0, 6), () -> x.tenant(0, 9), () -> x.answer(0, 0, -1), () -> x.count(8),
            () -> x.looked(3, true), () -> x.bestIndex(3)};
        for (int i = 0; i < calls.length; i++) {
            Call call = calls[i];
            due(i == 5 || i == 7 ? BOUNDS : ARGUMENT, "call " + i, call);
            due(before, "digest() behind call " + i, () -> x.digest());
        }
    }
}
