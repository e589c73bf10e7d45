import java.util.ArrayDeque;
import java.util.ArrayList;
import java.util.Comparator;
import java.util.HashSet;
import java.util.List;
import java.util.Map;
import java.util.Objects;
import java.util.Random;
import java.util.TreeMap;
import java.util.regex.Matcher;
import java.util.regex.Pattern;

/**
 * Runs of calls, chosen by fixed seeds, on the program and on a second, quite different one (Told) that keeps
 * values by letters and each table in a list of its own. Every answer and every exception must be the same.
 */
public final class RandomRunsTest {
    private static final int RUNS = 1200;
    private static final int CALLS = 512;

    private interface Call {
        Object answer();
    }

    public static void main(String[] args) {
        int wrong = 0;
        for (int run = 0; run < RUNS && wrong == 0; run++) {
            wrong += oneRun(run);
        }
        System.out.println(wrong == 0 ? "all answers are as due" : "an answer is not as due");
        if (wrong != 0) {
            System.exit(1);
        }
    }

    private static int oneRun(int run) {
        Random random = new Random(run);
        Chooser chooser = new Chooser(random, run);
        for (int call = 0; call < CALLS; call++) {
            chooser.choose();
            Object got = answerOf(chooser.asked);
            Object want = answerOf(chooser.wanted);
            if (!Objects.equals(got, want)) {
                System.out.println("run " + run + ", call " + call + ": " + chooser.name + " answered " + got
                    + ", due is " + want);
                return 1;
            }
        }
        return 0;
    }

    private static Object answerOf(Call call) {
        try {
            return call.answer();
        } catch (RuntimeException e) {
            return e.getClass().getSimpleName();
        }
    }

    /** Chooses the next call, for both programs. */
    private static final class Chooser {
        final Random random;
        final SharedColumns x = new SharedColumns();
        final Told y = new Told();
        // How a run is: some have many rows, some many wrong arguments, some few letters.
        final int wrongness;
        final int rowness;
        final int undoness;
        final int lastLetter;
        String typed = "";
        // How many of the next calls are about the question that was typed.
        int curious;
        int called;
        String name;
        Call asked;
        Call wanted;

        Chooser(Random random, int run) {
            this.random = random;
            wrongness = run % 5 == 0 ? 10 : 100;
            rowness = run % 3 == 0 ? 400 : 150;
            undoness = run % 4 == 0 ? 25 : 3;
            lastLetter = 1 + run % 7;
        }

        int upTo(int most) {
            if (random.nextInt(wrongness) == 0) {
                return random.nextBoolean() ? -1 : most + 1;
            }
            return random.nextInt(most + 1);
        }

        void set(String name, Call asked, Call wanted) {
            this.name = name;
            this.asked = asked;
            this.wanted = wanted;
        }

        void choose() {
            if (!typed.isEmpty()) {
                char c = typed.charAt(0);
                typed = typed.substring(1);
                set("append(" + (int) c + ")", () -> x.append(c), () -> y.append(c));
                return;
            }
            int dice = random.nextInt(120 + rowness + undoness);
            if (called++ < 12) {
                opening(called);
            } else if (curious > 0) {
                curious--;
                question(upTo(2), random.nextInt(2) - 1, upTo(4));
            } else if (dice < 30) {
                meanings();
            } else if (dice < 60) {
                buffer();
            } else if (dice < 90) {
                looks();
            } else if (dice < 110) {
                whatWouldBe();
            } else if (dice < 115) {
                tenants();
            } else if (dice < 120 + rowness) {
                rows();
            } else {
                set("undo()", () -> x.undo(), () -> y.undo());
            }
        }

        /** In most runs there are some meanings and high limits at first. */
        void opening(int call) {
            int tenant = call % 3;
            int letter = random.nextInt(lastLetter + 1);
            if (call > 9 && lastLetter > 2) {
                set("limit(" + tenant + ", false, 40)", () -> x.limit(tenant, false, 40), () -> y.limit(tenant, false, 40));
            } else {
                set("mean(" + tenant + ", " + letter + ", 0)", () -> x.mean(tenant, letter, 0), () -> y.mean(tenant, letter, 0));
            }
        }

        int someLetter() {
            return random.nextInt(20) == 0 ? upTo(7) : random.nextInt(lastLetter + 1);
        }

        void meanings() {
            int tenant = upTo(2);
            int letter = someLetter();
            int kind = upTo(2);
            String of = "(" + tenant + ", " + letter + ", " + kind + ")";
            switch (random.nextInt(12)) {
                case 0: set("forget" + of, () -> x.forget(tenant, letter), () -> y.forget(tenant, letter)); break;
                case 1: set("pack" + of, () -> x.pack(tenant), () -> y.pack(tenant)); break;
                case 2: case 3: set("index" + of, () -> x.index(tenant, letter), () -> y.index(tenant, letter)); break;
                default: set("mean" + of, () -> x.mean(tenant, letter, kind), () -> y.mean(tenant, letter, kind));
            }
        }

        void rows() {
            int tenant = upTo(2);
            int row = upTo(Math.max(0, y.now.all().size() - 1));
            int letter = letterOf(row);
            int kind = random.nextInt(20);
            int value = kind < 16 ? random.nextInt(2) : kind < 18 ? random.nextInt(9) - 4 : kind == 18
                ? upTo(19998) - 9999 : edge();
            switch (random.nextInt(24)) {
                case 0: set("remove(" + row + ")", () -> x.remove(row), () -> y.remove(row)); break;
                case 1: case 2: case 3: case 4: case 5: case 6: case 7: case 8:
                    set("row(" + tenant + ")", () -> x.row(tenant), () -> y.row(tenant)); break;
                default: set("put(" + row + ", " + letter + ", " + value + ")",
                    () -> x.put(row, letter, value), () -> y.put(row, letter, value));
            }
        }

        /** Mostly a letter that means something to the row's tenant. */
        int letterOf(int row) {
            List<Row> all = y.now.all();
            List<Integer> letters = new ArrayList<>();
            if (row >= 0 && row < all.size()) {
                letters.addAll(y.now.meanings.get(all.get(row).tenant).keySet());
            }
            return letters.isEmpty() || random.nextInt(5) == 0 ? someLetter()
                : letters.get(random.nextInt(letters.size()));
        }

        int edge() {
            int[] edges = {-10000, -9999, -1000, -999, -1, 0, 1, 2, 999, 1000, 3650, 3651, 9999, 10000};
            return edges[random.nextInt(edges.length)];
        }

        void tenants() {
            int tenant = upTo(2);
            boolean columns = random.nextBoolean();
            int limit = random.nextInt(3) == 0 ? upTo(40) : columns ? 8 : 40;
            if (random.nextBoolean()) {
                set("move(" + tenant + ")", () -> x.move(tenant), () -> y.move(tenant));
            } else {
                set("limit(" + tenant + ", " + columns + ", " + limit + ")",
                    () -> x.limit(tenant, columns, limit), () -> y.limit(tenant, columns, limit));
            }
        }

        void buffer() {
            int tenant = upTo(2);
            switch (random.nextInt(16)) {
                case 0: set("firstError()", () -> x.firstError(), () -> y.firstError()); break;
                case 1: set("purge(" + tenant + ")", () -> x.purge(tenant), () -> y.purge(tenant)); break;
                case 2: case 3: case 4: case 5: case 6: case 7:
                    set("ask(" + tenant + ")", () -> x.ask(tenant), () -> y.ask(tenant)); break;
                case 8: case 9: case 10:
                    typed = random.nextInt(8) == 0 ? anyText() : question();
                    curious = 9;
                    set("clearBuffer()", () -> x.clearBuffer(), () -> y.clearBuffer());
                    break;
                case 11:
                    int code = 31 + random.nextInt(98);
                    set("append(" + code + ")", () -> x.append(code), () -> y.append(code));
                    break;
                default: set("firstError()", () -> x.firstError(), () -> y.firstError());
            }
        }

        String anyText() {
            String codes = "abgh=<>-0123459&&&i!";
            StringBuilder text = new StringBuilder(random.nextBoolean() ? question() : "");
            for (int more = random.nextInt(9); more > 0; more--) {
                text.append(codes.charAt(random.nextInt(codes.length())));
            }
            return text.toString();
        }

        String question() {
            StringBuilder text = new StringBuilder();
            int terms = random.nextInt(20) == 0 ? 1 + random.nextInt(10) : 1 + random.nextInt(1 + random.nextInt(3));
            for (int term = 0; term < terms; term++) {
                int letter = Math.floorMod(letterOf(random.nextInt(y.now.all().size() + 1)), 8);
                text.append(term == 0 ? "" : "&").append((char) ('a' + letter));
                char sign = "===<>>".charAt(random.nextInt(6));
                int number = random.nextInt(9) == 0 ? random.nextInt(10000)
                    : random.nextInt(2) + (sign == '<' ? 1 : 0);
                boolean minus = random.nextInt(sign == '>' ? 2 : 9) == 0;
                text.append(sign).append(minus ? "-" : "").append(number);
            }
            return text.toString();
        }

        void looks() {
            int tenant = upTo(2);
            int row = upTo(Math.max(0, y.now.all().size() - 1));
            int letter = random.nextInt(3) == 0 ? upTo(8) - 1 : someLetter();
            int column = upTo(7);
            int what = upTo(9);
            int place = upTo(random.nextInt(4) == 0 ? 40 : 3);
            switch (random.nextInt(5)) {
                case 0: set("rowOf(" + row + ", " + what + ")", () -> x.rowOf(row, what), () -> y.rowOf(row, what)); break;
                case 1: set("column(" + tenant + ", " + column + ", " + what + ")",
                    () -> x.column(tenant, column, what), () -> y.column(tenant, column, what)); break;
                case 2: set("tenant(" + tenant + ", " + what + ")",
                    () -> x.tenant(tenant, what), () -> y.tenant(tenant, what)); break;
                case 3: set("count(" + what + ")", () -> x.count(what), () -> y.count(what)); break;
                default: set("answer(" + tenant + ", " + letter + ", " + place + ")",
                    () -> x.answer(tenant, letter, place), () -> y.answer(tenant, letter, place));
            }
        }

        void question(int tenant, int by, int place) {
            int letter = by < 0 ? by : someLetter();
            switch (random.nextInt(24)) {
                case 0: case 1: case 2: case 3: case 4: case 5: set("ask(" + tenant + ")", () -> x.ask(tenant), () -> y.ask(tenant)); break;
                case 6: case 7: case 8: case 9: case 10: case 11: set("answer(" + tenant + ", " + letter + ", " + place + ")",
                    () -> x.answer(tenant, letter, place), () -> y.answer(tenant, letter, place)); break;
                case 12: set("remove(" + place + ")", () -> x.remove(place), () -> y.remove(place)); break;
                default: whatWouldBe();
            }
        }

        void whatWouldBe() {
            int tenant = upTo(2);
            boolean moved = random.nextBoolean();
            switch (random.nextInt(6)) {
                case 0: set("looked(" + tenant + ", " + moved + ")",
                    () -> x.looked(tenant, moved), () -> y.looked(tenant, moved)); break;
                case 1: set("bestIndex(" + tenant + ")", () -> x.bestIndex(tenant), () -> y.bestIndex(tenant)); break;
                case 2: set("fullness()", () -> x.fullness(), () -> y.fullness()); break;
                default: set("digest()", () -> x.digest(), () -> y.digest());
            }
        }
    }

    private static final class Meaning {
        int column;
        int kind;
        boolean index;

        Meaning copy() {
            Meaning copy = new Meaning();
            copy.column = column;
            copy.kind = kind;
            copy.index = index;
            return copy;
        }
    }

    private static final class Row {
        final int tenant;
        final TreeMap<Integer, Integer> byLetter = new TreeMap<>();

        Row(int tenant) {
            this.tenant = tenant;
        }

        Row copy() {
            Row copy = new Row(tenant);
            copy.byLetter.putAll(byLetter);
            return copy;
        }
    }

    /** All that is saved: the table is list 0, the own table of a tenant list 1 + tenant. */
    private static final class Now {
        final List<List<Row>> tables = new ArrayList<>();
        final List<TreeMap<Integer, Meaning>> meanings = new ArrayList<>();
        // Of each tenant: limit of rows, that of columns, moved, questions, looked, answers, refusals.
        final int[][] numbers = {{20, 5, 0, 0, 0, 0, 0}, {20, 5, 0, 0, 0, 0, 0}, {20, 5, 0, 0, 0, 0, 0}};

        Now() {
            for (int i = 0; i < 4; i++) {
                tables.add(new ArrayList<>());
            }
            for (int i = 0; i < 3; i++) {
                meanings.add(new TreeMap<>());
            }
        }

        Now copy() {
            Now copy = new Now();
            for (int i = 0; i < 4; i++) {
                for (Row row : tables.get(i)) {
                    copy.tables.get(i).add(row.copy());
                }
            }
            for (int i = 0; i < 3; i++) {
                for (Map.Entry<Integer, Meaning> entry : meanings.get(i).entrySet()) {
                    copy.meanings.get(i).put(entry.getKey(), entry.getValue().copy());
                }
                copy.numbers[i] = numbers[i].clone();
            }
            return copy;
        }

        List<Row> all() {
            List<Row> all = new ArrayList<>();
            tables.forEach(all::addAll);
            return all;
        }

        List<Row> of(int tenant) {
            List<Row> own = all();
            own.removeIf(row -> row.tenant != tenant);
            return own;
        }

        List<Row> home(int tenant) {
            return tables.get(numbers[tenant][2] == 1 ? tenant + 1 : 0);
        }

        Map.Entry<Integer, Meaning> in(int tenant, int column) {
            for (Map.Entry<Integer, Meaning> entry : meanings.get(tenant).entrySet()) {
                if (entry.getValue().column == column) {
                    return entry;
                }
            }
            return null;
        }
    }

    /** The document told once more, without care for room or speed. */
    private static final class Told {
        static final Pattern TERM = Pattern.compile("([a-h])([=<>])(-?(?:0|[1-9][0-9]{0,3}))");
        static final Pattern WHOLE = Pattern.compile(TERM.pattern() + "(?:&" + TERM.pattern() + ")*");
        final ArrayDeque<Now> saved = new ArrayDeque<>();
        Now now = new Now();
        String text = "";

        static void check(boolean holds) {
            if (!holds) {
                throw new IllegalArgumentException();
            }
        }

        static void in(int number, int most) {
            check(number >= 0 && number <= most);
        }

        Row existing(int row) {
            List<Row> all = now.all();
            if (row < 0 || row >= all.size()) {
                throw new IndexOutOfBoundsException();
            }
            return all.get(row);
        }

        void save() {
            saved.addLast(now.copy());
            if (saved.size() > 6) {
                saved.removeFirst();
            }
        }

        int refused(int tenant, int reason) {
            now.numbers[tenant][6]++;
            return -1 - reason;
        }

        int mean(int tenant, int letter, int kind) {
            in(tenant, 2);
            in(letter, 7);
            in(kind, 2);
            save();
            TreeMap<Integer, Meaning> own = now.meanings.get(tenant);
            if (own.size() >= now.numbers[tenant][1]) {
                return refused(tenant, 1);
            }
            if (own.containsKey(letter)) {
                return refused(tenant, 3);
            }
            Meaning meaning = new Meaning();
            meaning.kind = kind;
            while (now.in(tenant, meaning.column) != null) {
                meaning.column++;
            }
            own.put(letter, meaning);
            return meaning.column;
        }

        int forget(int tenant, int letter) {
            in(tenant, 2);
            in(letter, 7);
            save();
            if (now.meanings.get(tenant).remove(letter) == null) {
                return refused(tenant, 5);
            }
            int gone = 0;
            for (Row row : now.of(tenant)) {
                gone += row.byLetter.remove(letter) == null ? 0 : 1;
            }
            return gone;
        }

        int pack(int tenant) {
            in(tenant, 2);
            save();
            List<Meaning> own = new ArrayList<>(now.meanings.get(tenant).values());
            own.sort(Comparator.comparingInt(meaning -> meaning.column));
            int changed = 0;
            for (int i = 0; i < own.size(); i++) {
                changed += own.get(i).column == i ? 0 : 1;
                own.get(i).column = i;
            }
            return changed;
        }

        int index(int tenant, int letter) {
            in(tenant, 2);
            in(letter, 7);
            save();
            Meaning meaning = now.meanings.get(tenant).get(letter);
            if (meaning == null) {
                return refused(tenant, 5);
            }
            meaning.index = !meaning.index;
            return meaning.index ? 1 : 0;
        }

        int row(int tenant) {
            in(tenant, 2);
            save();
            if (now.of(tenant).size() >= now.numbers[tenant][0]) {
                return refused(tenant, 1);
            }
            if (now.home(tenant).size() >= 40) {
                return refused(tenant, 2);
            }
            Row row = new Row(tenant);
            now.home(tenant).add(row);
            return now.all().indexOf(row);
        }

        int put(int number, int letter, int value) {
            existing(number);
            in(letter, 7);
            in(value + 9999, 19998);
            save();
            Row row = existing(number);
            Meaning meaning = now.meanings.get(row.tenant).get(letter);
            if (meaning == null) {
                return refused(row.tenant, 5);
            }
            int[] least = {-999, 0, 0};
            int[] most = {999, 1, 3650};
            if (value < least[meaning.kind] || value > most[meaning.kind]) {
                return refused(row.tenant, 6);
            }
            return row.byLetter.put(letter, value) == null ? 0 : 1;
        }

        int remove(int number) {
            existing(number);
            save();
            Row row = existing(number);
            now.tables.forEach(table -> table.remove(row));
            return row.tenant;
        }

        int move(int tenant) {
            in(tenant, 2);
            save();
            List<Row> own = now.of(tenant);
            boolean back = now.numbers[tenant][2] == 1;
            if (back && now.tables.get(0).size() + own.size() > 40) {
                return refused(tenant, 2);
            }
            now.home(tenant).removeAll(own);
            now.numbers[tenant][2] = back ? 0 : 1;
            now.home(tenant).addAll(own);
            return back ? 0 : 1;
        }

        int limit(int tenant, boolean columns, int limit) {
            in(tenant, 2);
            in(limit, columns ? 8 : 40);
            save();
            int previous = now.numbers[tenant][columns ? 1 : 0];
            now.numbers[tenant][columns ? 1 : 0] = limit;
            return previous;
        }

        int append(int code) {
            in(code - 33, 93);
            if (text.length() == 40) {
                throw new IllegalStateException();
            }
            text += (char) code;
            return text.length();
        }

        int clearBuffer() {
            int length = text.length();
            text = "";
            return length;
        }

        int firstError() {
            for (int i = 0; i < text.length(); i++) {
                Matcher matcher = WHOLE.matcher(text.substring(0, i + 1));
                if (!matcher.matches() && !matcher.hitEnd()) {
                    return i;
                }
            }
            return text.length();
        }

        boolean isQuestion() {
            return WHOLE.matcher(text).matches();
        }

        /** The terms: letter, sign, number. */
        List<int[]> terms() {
            List<int[]> terms = new ArrayList<>();
            Matcher matcher = TERM.matcher(text);
            while (matcher.find()) {
                terms.add(new int[] {matcher.group(1).charAt(0) - 'a', matcher.group(2).charAt(0),
                    Integer.parseInt(matcher.group(3))});
            }
            return terms;
        }

        List<Row> answers(int tenant) {
            List<Row> answers = now.of(tenant);
            for (int[] term : terms()) {
                answers.removeIf(row -> {
                    Integer value = row.byLetter.get(term[0]);
                    return value == null || Integer.signum(value.compareTo(term[2])) != term[1] - '=';
                });
            }
            return answers;
        }

        int look(int tenant, boolean moved, int indexMore) {
            if (moved) {
                return now.of(tenant).size();
            }
            int fewest = -1;
            for (int[] term : terms()) {
                Meaning meaning = now.meanings.get(tenant).get(term[0]);
                if (term[1] == '=' && meaning != null && (meaning.index || term[0] == indexMore)) {
                    List<Row> own = now.of(tenant);
                    own.removeIf(row -> !Objects.equals(row.byLetter.get(term[0]), term[2]));
                    fewest = fewest < 0 ? own.size() : Math.min(fewest, own.size());
                }
            }
            return fewest < 0 ? now.tables.get(0).size() : fewest;
        }

        boolean moved(int tenant) {
            return now.numbers[tenant][2] == 1;
        }

        int ask(int tenant) {
            in(tenant, 2);
            check(isQuestion());
            save();
            int answers = answers(tenant).size();
            now.numbers[tenant][3]++;
            now.numbers[tenant][4] += look(tenant, moved(tenant), -1);
            now.numbers[tenant][5] += answers;
            return answers;
        }

        int purge(int tenant) {
            in(tenant, 2);
            check(isQuestion());
            save();
            List<Row> answers = answers(tenant);
            now.home(tenant).removeAll(answers);
            return answers.size();
        }

        int undo() {
            if (saved.isEmpty()) {
                throw new IllegalStateException();
            }
            now = saved.removeLast();
            return saved.size();
        }

        int rowOf(int number, int what) {
            Row row = existing(number);
            in(what, 9);
            if (what == 0) {
                return row.tenant;
            }
            if (what == 9) {
                return row.byLetter.size();
            }
            Map.Entry<Integer, Meaning> entry = now.in(row.tenant, what - 1);
            Integer value = entry == null ? null : row.byLetter.get(entry.getKey());
            return value == null ? -1 : value + 10000;
        }

        int column(int tenant, int column, int what) {
            in(tenant, 2);
            in(column, 7);
            in(what, 5);
            Map.Entry<Integer, Meaning> entry = now.in(tenant, column);
            if (entry == null) {
                return -1;
            }
            List<Integer> values = new ArrayList<>();
            now.of(tenant).forEach(row -> values.add(row.byLetter.get(entry.getKey())));
            values.removeIf(Objects::isNull);
            int sum = values.stream().mapToInt(value -> value).sum();
            int[] due = {entry.getKey(), entry.getValue().kind, entry.getValue().index ? 1 : 0, values.size(),
                sum + 1000000, new HashSet<>(values).size()};
            return due[what];
        }

        int tenant(int tenant, int what) {
            in(tenant, 2);
            in(what, 8);
            if (what < 2) {
                return what == 0 ? now.of(tenant).size() : now.meanings.get(tenant).size();
            }
            return now.numbers[tenant][what - 2];
        }

        int answer(int tenant, int letter, int place) {
            in(tenant, 2);
            in(letter + 1, 8);
            check(place >= 0);
            List<Row> all = now.all();
            List<Row> answers = isQuestion() ? answers(tenant) : new ArrayList<>();
            if (letter >= 0) {
                answers.sort(Comparator.comparingInt(row -> row.byLetter.getOrDefault(letter, 99999)));
            }
            return place < answers.size() ? all.indexOf(answers.get(place)) : -1;
        }

        int count(int what) {
            in(what, 7);
            int[] due = {now.tables.get(0).size(), now.all().size(), 0, 0, 0, 0, 0, saved.size()};
            now.tables.get(0).forEach(row -> due[2] += row.byLetter.size());
            for (int column = 0; column < 8; column++) {
                int tenants = 0;
                for (int tenant = 0; tenant < 3; tenant++) {
                    tenants += now.in(tenant, column) == null ? 0 : 1;
                }
                due[3] += tenants >= 2 ? 1 : 0;
                due[4] += tenants == 0 ? 1 : 0;
            }
            for (int tenant = 0; tenant < 3; tenant++) {
                now.meanings.get(tenant).values().forEach(meaning -> due[5] += meaning.index ? 1 : 0);
                due[6] += now.numbers[tenant][2];
            }
            return due[what];
        }

        int looked(int tenant, boolean moved) {
            in(tenant, 2);
            return isQuestion() ? look(tenant, moved || moved(tenant), -1) : -1;
        }

        int bestIndex(int tenant) {
            in(tenant, 2);
            if (!isQuestion() || moved(tenant)) {
                return -1;
            }
            int best = -1;
            for (int[] term : terms()) {
                Meaning meaning = now.meanings.get(tenant).get(term[0]);
                if (term[1] == '=' && meaning != null && !meaning.index
                        && look(tenant, false, term[0]) < look(tenant, false, best)) {
                    best = term[0];
                }
            }
            return best;
        }

        double fullness() {
            return count(0) == 0 ? 0.0 : (double) count(2) / (8 * count(0));
        }

        long digest() {
            List<Long> values = new ArrayList<>();
            for (int what = 0; what <= 7; what++) {
                values.add((long) count(what));
            }
            for (int row = 0; row < count(1); row++) {
                for (int what = 0; what <= 9; what++) {
                    values.add((long) rowOf(row, what));
                }
            }
            for (int tenant = 0; tenant < 3; tenant++) {
                for (int what = 0; what <= 8; what++) {
                    values.add((long) tenant(tenant, what));
                }
                for (int place = 0; place < 48; place++) {
                    values.add((long) column(tenant, place / 6, place % 6));
                }
                for (int place = 0; answer(tenant, -1, place) >= 0; place++) {
                    values.add((long) answer(tenant, -1, place));
                }
                for (int place = 0; place <= 2; place++) {
                    values.add((long) answer(tenant, 0, place));
                }
                values.add((long) looked(tenant, false));
                values.add((long) looked(tenant, true));
                values.add((long) bestIndex(tenant));
            }
            values.add(Double.doubleToLongBits(fullness()));
            values.add((long) text.length());
            text.chars().forEach(code -> values.add((long) code));
            long hash = 3049;
            for (long value : values) {
                hash = 31 * hash + value;
            }
            return hash;
        }
    }
}
