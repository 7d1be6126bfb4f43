import java.util.ArrayList;
import java.util.Arrays;
import java.util.List;
import java.util.Set;
import java.util.stream.IntStream;

/**
 * Runs of calls written as rows, each run a test of its own for one sentence of the document:
 *
 *   new 100                         a new object, with this capacity
 *   order 5 0 10 = 0                a call and the answer that is due
 *   order 5 8 10 ! SomeException    a call and the exception that is due
 *   stock 4 10                      a call that only must not throw
 *   16 x order 5 0 10               so many times
 *   told 1 {0..2} = {30 0 1}        a row for each number in the braces, those at the same place taken together
 *
 * MIN and MAX are the least and the greatest int; what is behind -- is a remark. A call that is refused, or that only
 * asks, must change nothing: two objects, one with such calls and one without, are probed for that.
 */
final class Rows {
    private static final Set<String> ASKING = Set.of("wave", "told", "member", "replenish", "lacks", "late", "count");

    private record Row(String text, String name, int[] numbers, String want, boolean refused) {
        /** Refused by an exception, or by a release's answer that something is missing. */
        boolean isTurnedDown() {
            return refused || name.equals("release") && !want.equals("0");
        }

        boolean changesNothing() {
            return isTurnedDown() || ASKING.contains(name);
        }
    }

    private Rows() {
    }

    static void hold(String sentence, String text) {
        hold(sentence, text, true);
    }

    /** For runs with hundreds of refused calls: what they have changed is probed behind the last row alone. */
    static void holdProbedAtTheEnd(String sentence, String text) {
        hold(sentence, text, false);
    }

    private static void hold(String sentence, String text, boolean probedEachTime) {
        List<Integer> capacities = List.of();
        List<Row> rows = new ArrayList<>();
        for (String line : text.lines().toList()) {
            String written = line.replaceFirst("--.*", "").strip();
            if (written.startsWith("new ")) {
                checkRuns(sentence, capacities, rows, probedEachTime);
                capacities = Arrays.stream(expanded(written)).map(one -> number(one.substring(4))).toList();
                rows.clear();
            } else if (!written.isEmpty()) {
                for (String one : expanded(written)) {
                    addRows(rows, one);
                }
            }
        }
        checkRuns(sentence, capacities, rows, probedEachTime);
    }

    private static void addRows(List<Row> rows, String written) {
        String[] repeated = written.split(" x ");
        String call = repeated[repeated.length - 1];
        String[] halves = call.split(" [=!] ");
        String[] words = halves[0].strip().split(" +");
        int[] numbers = IntStream.range(1, words.length).map(i -> number(words[i])).toArray();
        if (!Plans.isName(words[0], numbers.length)) {
            throw new AssertionError("the test is wrong: " + written);
        }
        Row row = new Row(call, words[0], numbers, halves.length == 2 ? halves[1].strip() : "", call.contains(" ! "));
        for (int i = 0; i < (repeated.length == 2 ? number(repeated[0]) : 1); i++) {
            rows.add(row);
        }
    }

    private static int number(String word) {
        return switch (word.strip()) {
            case "MIN" -> Integer.MIN_VALUE;
            case "MAX" -> Integer.MAX_VALUE;
            default -> Integer.parseInt(word.strip());
        };
    }

    private static String[] expanded(String written) {
        List<String> rows = List.of("");
        for (String part : written.split("(?=\\{)|(?<=\\})")) {
            List<String> values = part.startsWith("{") ? values(part.substring(1, part.length() - 1)) : List.of(part);
            int size = Math.max(rows.size(), values.size());
            List<String> longer = new ArrayList<>();
            if (rows.size() != size && rows.size() != 1 || values.size() != size && values.size() != 1) {
                throw new AssertionError("the test is wrong: " + written);
            }
            for (int i = 0; i < size; i++) {
                longer.add(rows.get(rows.size() == 1 ? 0 : i) + values.get(values.size() == 1 ? 0 : i));
            }
            rows = longer;
        }
        return rows.toArray(new String[0]);
    }

    private static List<String> values(String inBraces) {
        String[] ends = inBraces.split("\\.\\.");
        if (ends.length == 2) {
            return IntStream.rangeClosed(number(ends[0]), number(ends[1])).mapToObj(Integer::toString).toList();
        }
        return List.of(inBraces.strip().split(" +"));
    }

    private static void checkRuns(String sentence, List<Integer> capacities, List<Row> rows, boolean probedEachTime) {
        for (int capacity : capacities) {
            checkAnswers(sentence, capacity, rows);
            for (int i = 0; i < rows.size(); i++) {
                boolean last = i == rows.size() - 1;
                if (last || probedEachTime && rows.get(i).isTurnedDown()) {
                    checkNothingChanged(sentence + ", new " + capacity + ", behind " + rows.get(i).text(), capacity, rows.subList(0, i + 1));
                }
            }
        }
    }

    private static void checkAnswers(String sentence, int capacity, List<Row> rows) {
        Plans x = new Plans(capacity);
        for (Row row : rows) {
            String got = x.call(row.name(), row.numbers());
            String call = sentence + ", new " + capacity + ": " + row.text();
            if (row.want().isEmpty()) {
                Check.due(call, got.endsWith("Exception") ? got : "an answer", "an answer");
            } else {
                Check.due(call, got, row.want());
            }
        }
    }

    private static void checkNothingChanged(String where, int capacity, List<Row> rows) {
        for (Probe probe : Probe.values()) {
            int calls = Plans.MOST_CALLS - rows.size();
            Plans with = new Plans(capacity);
            Plans without = new Plans(capacity);
            for (Row row : rows) {
                with.call(row.name(), row.numbers());
                if (!row.changesNothing()) {
                    without.call(row.name(), row.numbers());
                }
            }
            checkSameLines(where + ": " + probe, probe.answers(with, calls), probe.answers(without, calls));
        }
    }

    /** Tells the first line that differs alone: those behind it mostly differ by the same cause. */
    private static void checkSameLines(String where, String got, String want) {
        String[] gotLines = got.split("\n");
        String[] wantLines = want.split("\n");
        int differs = Math.max(0, Arrays.mismatch(gotLines, wantLines));
        Check.due(where, lineAt(gotLines, differs), lineAt(wantLines, differs));
    }

    private static String lineAt(String[] lines, int i) {
        return i < lines.length ? lines[i] : "nothing more";
    }
}
