import java.util.ArrayList;
import java.util.Arrays;
import java.util.List;
import java.util.function.ToIntFunction;

/** A text as a list of things, read one behind another; the first that cannot stand there is thrown. */
final class PlainText {
    /** Tells whether something holds, asked by words that stand for numbers. */
    interface Condition {
        boolean holds(ToIntFunction<String> part);
    }

    static final class Wrong extends RuntimeException {
        private static final long serialVersionUID = 1L;
        final int at;

        Wrong(int at) {
            this.at = at;
        }
    }

    private static final List<String> PARTS = List.of("monk", "flag", "pace", "season", "late", "hour", "stall");

    private final List<String> things = new ArrayList<>();
    private final List<Integer> begins = new ArrayList<>();
    private int next;

    PlainText(List<Integer> bytes) {
        StringBuilder all = new StringBuilder();
        bytes.forEach(b -> all.append((char) (int) b));
        String text = all.toString();
        int at = 0;
        while (at < text.length()) {
            String rest = text.substring(at);
            String thing = rest.replaceAll("(?s)^([a-z]+|[0-9]+|.).*$", "$1");
            if (!thing.equals(" ")) {
                things.add(thing);
                begins.add(at);
            }
            at += thing.length();
        }
        things.add("");
        begins.add(text.length());
    }

    private String here() {
        return things.get(next);
    }

    private Wrong wrong() {
        return new Wrong(begins.get(next));
    }

    /** That what was read just before is wrong. */
    Wrong wrongBehind() {
        return new Wrong(begins.get(next - 1));
    }

    boolean has(String... words) {
        return Arrays.asList(words).contains(here());
    }

    String word(String... words) {
        if (!has(words)) {
            throw wrong();
        }
        return things.get(next++);
    }

    int number(int least, int most) {
        if (!here().matches("[0-9]{1,3}") || Integer.parseInt(here()) < least || Integer.parseInt(here()) > most) {
            throw wrong();
        }
        return Integer.parseInt(things.get(next++));
    }

    int letters() {
        if (!here().matches("[a-l]+") || here().chars().distinct().count() < here().length()) {
            throw wrong();
        }
        return things.get(next++).chars().map(letter -> 1 << letter - 'a').sum();
    }

    void lines(int most, Runnable line) {
        if (here().isEmpty()) {
            return;
        }
        line.run();
        for (int lines = 1; !here().isEmpty(); lines++) {
            word(";");
            if (lines == most) {
                throw wrong();
            }
            line.run();
        }
    }

    Condition condition(int deep) {
        Condition one = all(deep);
        if (!has("or")) {
            return one;
        }
        word("or");
        Condition others = condition(deep);
        return part -> one.holds(part) || others.holds(part);
    }

    private Condition all(int deep) {
        Condition one = atom(deep);
        if (!has("and")) {
            return one;
        }
        word("and");
        Condition others = all(deep);
        return part -> one.holds(part) && others.holds(part);
    }

    private Condition atom(int deep) {
        if (deep == 0 && has("not", "(")) {
            throw wrong();
        }
        if (has("not")) {
            word("not");
            Condition one = atom(deep - 1);
            return part -> !one.holds(part);
        }
        if (has("(")) {
            word("(");
            Condition one = condition(deep - 1);
            word(")");
            return one;
        }
        if (has("corner", "hungry")) {
            String word = word("corner", "hungry");
            return part -> part.applyAsInt(word) == 1;
        }
        List<String> left = sum();
        boolean less = word("<", ">").equals("<");
        List<String> right = sum();
        return part -> less ? value(left, part) < value(right, part) : value(left, part) > value(right, part);
    }

    private List<String> sum() {
        List<String> parts = new ArrayList<>();
        do {
            if (!parts.isEmpty()) {
                word("+");
            }
            parts.add(PARTS.contains(here()) ? word(here()) : "" + number(0, 999));
        } while (has("+"));
        return parts;
    }

    private static int value(List<String> parts, ToIntFunction<String> part) {
        int sum = 0;
        for (String one : parts) {
            sum += PARTS.contains(one) ? part.applyAsInt(one) : Integer.parseInt(one);
        }
        return sum;
    }
}
