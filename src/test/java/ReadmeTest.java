import java.io.IOException;
import java.lang.reflect.Method;
import java.nio.charset.StandardCharsets;
import java.nio.file.Files;
import java.nio.file.Path;

/**
 * README.md against the class: its example is the one that runs here, each call of the class is named, and what
 * it says of refusals, exceptions and undo is so.
 */
public final class ReadmeTest {
    private static final String[] EXAMPLE = {
        "SharedColumns table = new SharedColumns();",
        "table.mean(0, 0, 0);",
        "int row = table.row(0);",
        "table.put(row, 0, 42);",
        "for (char c : \"a>40\".toCharArray()) {",
        "table.append(c);",
        "int answers = table.ask(0);",
        "int first = table.answer(0, SharedColumns.NONE, 0);",
        "table.undo();",
    };
    private static int wrong;

    public static void main(String[] args) throws IOException {
        String text = Files.readString(Path.of("README.md"), StandardCharsets.UTF_8);
        exampleStandsIn(text);
        callsStandIn(text);
        example();
        question();
        refusals();
        exceptions();
        System.out.println(wrong == 0 ? "all answers are as due" : wrong + " answers are not as due");
        if (wrong != 0) {
            System.exit(1);
        }
    }

    private static void due(String told, long got, long want) {
        if (got != want) {
            wrong++;
            System.out.println(told + " answered " + got + ", due is " + want);
        }
    }

    private static void exampleStandsIn(String text) {
        int behind = text.indexOf("```java");
        int end = text.indexOf("```", behind + 3);
        for (String line : EXAMPLE) {
            int at = text.indexOf(line, Math.max(behind, 0));
            due("a line of the example in its place: " + line, at >= behind && at < end && at >= 0 ? 1 : 0, 1);
            behind = Math.max(behind, at);
        }
    }

    private static void callsStandIn(String text) {
        for (Method method : SharedColumns.class.getMethods()) {
            if (method.getDeclaringClass() == SharedColumns.class) {
                due(method.getName() + " in README.md", text.contains("`" + method.getName() + "`") ? 1 : 0, 1);
            }
        }
    }

    private static void example() {
        SharedColumns table = new SharedColumns();
        due("mean", table.mean(0, 0, 0), 0);
        int row = table.row(0);
        due("row", row, 0);
        table.put(row, 0, 42);
        type(table, "a>40");
        int answers = table.ask(0);
        due("ask", answers, 1);
        int first = table.answer(0, SharedColumns.NONE, 0);
        due("answer", first, 0);
        due("questions, once it is asked", table.tenant(0, 5), 1);
        table.undo();
        due("questions, as if it had not been asked", table.tenant(0, 5), 0);
        due("the buffer's length stays", table.clearBuffer(), 4);
    }

    private static void question() {
        SharedColumns table = new SharedColumns();
        type(table, "a=3&c<-20&h>0");
        due("firstError of README.md's question", table.firstError(), 13);
        due("ask of README.md's question", table.ask(2), 0);
    }

    private static void refusals() {
        SharedColumns table = new SharedColumns();
        table.limit(0, true, 1);
        table.mean(0, 0, 1);
        due("mean beyond the limit", table.mean(0, 1, 0), -2);
        table.limit(0, true, 8);
        due("mean of a letter that means something", table.mean(0, 0, 1), -4);
        due("forget of a letter that means nothing", table.forget(0, 7), -6);
        int row = table.row(0);
        due("put that does not fit", table.put(row, 0, 2), -7);
        for (int i = 1; i < 40; i++) {
            table.row(i % 2);
        }
        due("row of a full table", table.row(2), -3);
        due("refusals of tenant 0", table.tenant(0, 8), 4);
        due("refusals of tenant 2", table.tenant(2, 8), 1);
        table.undo();
        due("refusals of tenant 2, after undo", table.tenant(2, 8), 0);
    }

    private static void exceptions() {
        SharedColumns table = new SharedColumns();
        long before = table.digest();
        try {
            table.ask(0);
            due("ask without a question throws", 0, 1);
        } catch (IllegalArgumentException e) {
            due("ask changes nothing", table.digest(), before);
        }
        try {
            table.remove(0);
            due("remove without a row throws", 0, 1);
        } catch (IndexOutOfBoundsException e) {
            due("remove changes nothing", table.digest(), before);
        }
        try {
            table.undo();
            due("undo without a saved state throws", 0, 1);
        } catch (IllegalStateException e) {
            due("undo changes nothing", table.digest(), before);
        }
    }

    private static void type(SharedColumns table, String text) {
        for (char c : text.toCharArray()) {
            table.append(c);
        }
    }
}
