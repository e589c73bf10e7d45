import java.io.IOException;
import java.lang.reflect.InvocationTargetException;
import java.lang.reflect.Method;
import java.math.BigInteger;
import java.nio.charset.StandardCharsets;
import java.nio.file.Files;
import java.nio.file.Path;
import java.util.ArrayList;
import java.util.HashMap;
import java.util.LinkedHashMap;
import java.util.List;
import java.util.Map;
import java.util.Objects;
import java.util.Set;
import java.util.TreeSet;

/**
 * Tests by sentences of the document. Each test quotes its sentence (or the part of it that it is about), and
 * has an object of its own, which is never used for more than the 512 calls that the document speaks of.
 */
final class Sentences {
    static final String ARGUMENT = "IllegalArgumentException";
    static final String STATE = "IllegalStateException";
    static final String BOUNDS = "IndexOutOfBoundsException";
    private static final int MOST_CALLS = 512;
    private static final Path DOCUMENT = Path.of("..", "shared", "DOC.md");

    interface Test {
        void run();
    }

    private final Map<String, Method> methods = new HashMap<>();
    // Section by section, in the order of the document; empty if the document can't be read.
    private final Map<String, List<String>> document = new LinkedHashMap<>();
    private final Map<String, Set<String>> quotes = new HashMap<>();
    private final List<String> done = new ArrayList<>();
    private SharedColumns table;
    private int calls;
    private String about = "";
    private int tests;
    private int wrong;

    Sentences() {
        for (Method method : SharedColumns.class.getMethods()) {
            if (method.getDeclaringClass() == SharedColumns.class) {
                methods.put(method.getName(), method);
            }
        }
        readDocument();
    }

    // ---- the document

    private void readDocument() {
        List<String> sentences = new ArrayList<>();
        try {
            for (String line : Files.readAllLines(DOCUMENT, StandardCharsets.UTF_8)) {
                if (line.startsWith("#")) {
                    sentences = new ArrayList<>();
                    document.put(line.replaceFirst("#+ ", ""), sentences);
                } else if (!line.isBlank()) {
                    sentences.addAll(List.of(line.split("(?<=\\.) (?=[A-Z])")));
                }
            }
        } catch (IOException e) {
            document.clear();
            System.out.println("the document can't be read: no quote is compared with it");
        }
    }

    /** A test of one sentence, on a new object. */
    void of(String section, String quote, Test test) {
        about = section + ", \"" + quote + "\"";
        namesNoBoundary(section, quote);
        fresh();
        tests++;
        test.run();
    }

    /** A sentence that has no test among these. */
    void namesNoBoundary(String section, String quote) {
        quotes.computeIfAbsent(section, any -> new TreeSet<>()).add(quote);
        boolean stands = document.getOrDefault(section, List.of()).stream().anyMatch(told -> told.contains(quote));
        if (!document.isEmpty() && !stands) {
            fail(section + " does not say: " + quote);
        }
    }

    /** Each sentence of these sections has been quoted. */
    void nothingLeftOut(String... sections) {
        for (String section : sections) {
            for (String sentence : document.getOrDefault(section, List.of())) {
                if (quotes.getOrDefault(section, Set.of()).stream().noneMatch(sentence::contains)) {
                    fail(section + " has a sentence without a test: " + sentence);
                }
            }
        }
    }

    void finish() {
        System.out.println(wrong == 0 ? tests + " tests of sentences: all answers are as due"
            : wrong + " answers are not as due");
        if (wrong != 0) {
            System.exit(1);
        }
    }

    private void fail(String told) {
        wrong++;
        System.out.println(told);
    }

    // ---- calls

    void fresh() {
        done.clear();
        table = new SharedColumns();
        calls = 0;
    }

    /** Makes a call that is told as a text, and returns its answer, or the name of what it throws. */
    Object call(String told) {
        done.add(told);
        return answerOf(told);
    }

    private Object answerOf(String told) {
        calls++;
        if (calls > MOST_CALLS) {
            throw new IllegalStateException(about + ": more than 512 calls of one object");
        }
        int open = told.indexOf('(');
        Method method = methods.get(told.substring(0, open));
        String inside = told.substring(open + 1, told.length() - 1);
        String[] words = inside.isEmpty() ? new String[0] : inside.split(", ");
        Object[] arguments = new Object[words.length];
        for (int i = 0; i < words.length; i++) {
            boolean truth = method.getParameterTypes()[i] == boolean.class;
            arguments[i] = truth ? (Object) Boolean.valueOf(words[i]) : (Object) Integer.valueOf(words[i]);
        }
        try {
            return method.invoke(table, arguments);
        } catch (InvocationTargetException e) {
            return e.getCause().getClass().getSimpleName();
        } catch (IllegalAccessException e) {
            throw new IllegalStateException(e);
        }
    }

    void due(Object want, String told) {
        compare(want, told, call(told));
    }

    void compare(Object want, String told, Object got) {
        if (!Objects.equals(got, want)) {
            fail(about + ": " + told + " answered " + got + ", due is " + want);
        }
    }

    /** Each of these calls throws this exception. */
    void thrown(String exception, String... told) {
        for (String one : told) {
            due(exception, one);
        }
    }

    /** None of these calls throws. */
    void answered(String... told) {
        for (String one : told) {
            Object got = call(one);
            if (got instanceof String) {
                fail(about + ": " + one + " throws " + got + ", an answer is due");
            }
        }
    }

    /** Puts each of these numbers in the place of "#" in a call: each is out of its range. */
    void outOfRange(String told, int... numbers) {
        thrown(ARGUMENT, filled(told, numbers));
        thrown(ARGUMENT, filled(told, Integer.MIN_VALUE, Integer.MAX_VALUE));
    }

    /** Puts each of these numbers in the place of "#" in a call: none is out of its range. */
    void inRange(String told, int... numbers) {
        answered(filled(told, numbers));
    }

    private static String[] filled(String told, int... numbers) {
        String[] filled = new String[numbers.length];
        for (int i = 0; i < numbers.length; i++) {
            filled[i] = told.replace("#", Integer.toString(numbers[i]));
        }
        return filled;
    }

    /** The answers of a call, with 0, 1, 2 and so on in the place of "#". */
    void row(String told, Object... wants) {
        for (int i = 0; i < wants.length; i++) {
            due(wants[i], told.replace("#", Integer.toString(i)));
        }
    }

    void times(int many, String told) {
        for (int i = 0; i < many; i++) {
            answered(told);
        }
    }

    /** Types a text into the buffer, in place of what is there. */
    void type(String text) {
        answered("clearBuffer()");
        for (int i = 0; i < text.length(); i++) {
            answered("append(" + (int) text.charAt(i) + ")");
        }
    }

    /** So many rows of a tenant; in each its number in the column 0, as "a". */
    void numberedRows(int tenant, int many) {
        answered("mean(" + tenant + ", 0, 0)");
        for (int row = 0; row < many; row++) {
            answered("row(" + tenant + ")", "put(" + row + ", 0, " + row + ")");
        }
    }

    /** Nine rows of the tenants 0, 1, 2 in turn; in each its number in the column 0, as "a". */
    void mixedRows() {
        answered("mean(0, 0, 0)", "mean(1, 0, 0)", "mean(2, 0, 0)");
        for (int row = 0; row < 9; row++) {
            answered("row(" + row % 3 + ")", "put(" + row + ", 0, " + row + ")");
        }
    }

    /** Makes the calls; behind them all stands as it stood before. */
    void changingNothing(String... told) {
        Object before = call("digest()");
        for (String one : told) {
            call(one);
            compare(before, "digest() behind " + one, call("digest()"));
        }
    }

    /** A call that saves one state more; undo restores all from before it. */
    void undoable(Object want, String told) {
        // Six states are the most: so that their number can rise, two calls are made and undone.
        times(2, "pack(2)");
        times(2, "undo()");
        int saved = (int) call("count(7)");
        Object before = call("digest()");
        due(want, told);
        due(saved + 1, "count(7)");
        due(saved, "undo()");
        compare(before, "digest() behind undo() of " + told, call("digest()"));
    }

    // ---- the digest by the other calls

    /** What digest is due, with this text in the buffer; by other objects to which the same was done. */
    long toldDigest(String text) {
        List<Object> told = new ArrayList<>();
        List<String> script = new ArrayList<>(done);
        SharedColumns kept = table;
        int keptCalls = calls;
        calls = MOST_CALLS;
        look(script, told, "count(#)", 0, 7);
        int rows = (int) told.get(1);
        for (int row = 0; row < rows; row++) {
            look(script, told, "rowOf(" + row + ", #)", 0, 9);
        }
        for (int tenant = 0; tenant < 3; tenant++) {
            tellTenant(script, told, tenant, rows);
        }
        look(script, told, "fullness()", 0, 0);
        told.add(text.length());
        text.chars().forEach(told::add);
        table = kept;
        calls = keptCalls;
        return hashOf(told);
    }

    private void tellTenant(List<String> script, List<Object> told, int tenant, int rows) {
        look(script, told, "tenant(" + tenant + ", #)", 0, 8);
        for (int column = 0; column < 8; column++) {
            look(script, told, "column(" + tenant + ", " + column + ", #)", 0, 5);
        }
        List<Object> answers = new ArrayList<>();
        look(script, answers, "answer(" + tenant + ", -1, #)", 0, rows);
        answers.removeIf(answer -> answer.equals(-1));
        told.addAll(answers);
        look(script, told, "answer(" + tenant + ", 0, #)", 0, 2);
        look(script, told, "looked(" + tenant + ", false)", 0, 0);
        look(script, told, "looked(" + tenant + ", true)", 0, 0);
        look(script, told, "bestIndex(" + tenant + ")", 0, 0);
    }

    /** Adds answers of calls that change nothing; when the calls of an object are used up, by a new one. */
    private void look(List<String> script, List<Object> told, String call, int first, int last) {
        for (int number = first; number <= last; number++) {
            if (calls >= MOST_CALLS) {
                table = new SharedColumns();
                calls = 0;
                script.forEach(this::answerOf);
            }
            told.add(answerOf(call.replace("#", Integer.toString(number))));
        }
    }

    /** The hash in numbers without bounds, cut to a long only when it is whole. */
    static long hashOf(List<Object> values) {
        BigInteger hash = BigInteger.valueOf(3049);
        for (Object value : values) {
            long number = value instanceof Double ? Double.doubleToLongBits((Double) value)
                : ((Number) value).longValue();
            hash = hash.multiply(BigInteger.valueOf(31)).add(BigInteger.valueOf(number));
        }
        return hash.longValue();
    }
}
