import java.util.ArrayList;
import java.util.Arrays;
import java.util.HashSet;
import java.util.List;
import java.util.Set;

/**
 * The law a second time, by other means: faults by an Earley recogniser over the document's grammar, answers by
 * splitting the rows of tokens at their weakest sign.
 */
final class ModelLaw {
    private static final List<String> WORDS = Arrays.asList("pay", "bar", "when", "or", "and", "not", "coins", "age",
        "purse", "spot", "years", "here", "debtor", "creditor", "sunday");
    private static final List<String> FACTS = WORDS.subList(6, 15);
    private static final String[] RULES = {
        "S>L", "S>SL", "L>V;", "L>VwB;", "V>p", "V>b", "B>A", "B>BoA", "A>C", "A>AaC", "C>ERE", "C>nC", "C>(B)",
        "R><", "R>=", "R>>", "E>T", "E>E+T", "E>E-T", "T>U", "T>T*U", "T>T/N", "U>N", "U>F"
    };

    final List<String> tokens = new ArrayList<>();
    final List<Integer> places = new ArrayList<>();
    private final int length;
    int fault;
    int place = -1;

    ModelLaw(int[] bytes) {
        length = bytes.length;
        split(bytes);
        note(1, firstThatCannotStand());
        note(2, firstPartByNothing());
        note(3, firstTooMany());
    }

    private void note(int what, int where) {
        if (where >= 0 && (place < 0 || where < place)) {
            place = where;
            fault = what;
        }
    }

    private void split(int[] bytes) {
        StringBuilder text = new StringBuilder();
        for (int b : bytes) {
            text.append((char) b);
        }
        java.util.regex.Matcher m =
            java.util.regex.Pattern.compile("[A-Za-z]+|[0-9]+|[ \\n]+|.", java.util.regex.Pattern.DOTALL).matcher(text);
        while (m.find()) {
            if (!m.group().trim().isEmpty() || !m.group().matches("[ \\n]+")) {
                tokens.add(m.group());
                places.add(m.start());
            }
        }
    }

    private static char kind(String token) {
        if (token.equals("when")) {
            return 'w';
        }
        if (FACTS.contains(token)) {
            return 'F';
        }
        if (WORDS.contains(token)) {
            return token.charAt(0);
        }
        if (token.matches("[0-9]{1,4}")) {
            return 'N';
        }
        return token.length() == 1 && ";+-*/()<=>".contains(token) ? token.charAt(0) : '?';
    }

    /** An item: rule, dot, origin. */
    private static int item(int rule, int dot, int origin) {
        return (origin * 8 + dot) * 32 + rule;
    }

    private int firstThatCannotStand() {
        List<Set<Integer>> sets = new ArrayList<>();
        Set<Integer> now = new HashSet<>();
        now.add(item(0, 0, 0));
        now.add(item(1, 0, 0));
        boolean ends = true;
        for (int i = 0; i <= tokens.size(); i++) {
            sets.add(now);
            boolean whole = close(sets, i);
            ends = i == 0 || whole;
            if (i == tokens.size()) {
                break;
            }
            char kind = kind(tokens.get(i));
            Set<Integer> then = new HashSet<>();
            for (int it : now) {
                String right = RULES[it % 32].substring(2);
                int dot = it / 32 % 8;
                if (dot < right.length() && right.charAt(dot) == kind && !isName(kind)) {
                    then.add(it + 32);
                }
            }
            if (then.isEmpty()) {
                return places.get(i);
            }
            now = then;
        }
        return ends ? -1 : length;
    }

    private static boolean isName(char c) {
        return "SLVBACRETU".indexOf(c) >= 0;
    }

    private static boolean close(List<Set<Integer>> sets, int at) {
        boolean whole = false;
        List<Integer> todo = new ArrayList<>(sets.get(at));
        for (int i = 0; i < todo.size(); i++) {
            int it = todo.get(i);
            String right = RULES[it % 32].substring(2);
            int dot = it / 32 % 8;
            int origin = it / 256;
            List<Integer> found = new ArrayList<>();
            if (dot < right.length()) {
                for (int r = 0; r < RULES.length; r++) {
                    if (isName(right.charAt(dot)) && RULES[r].charAt(0) == right.charAt(dot)) {
                        found.add(item(r, 0, at));
                    }
                }
            } else {
                char name = RULES[it % 32].charAt(0);
                whole |= name == 'S' && origin == 0;
                for (int back : new ArrayList<>(sets.get(origin))) {
                    String itsRight = RULES[back % 32].substring(2);
                    int itsDot = back / 32 % 8;
                    if (itsDot < itsRight.length() && itsRight.charAt(itsDot) == name) {
                        found.add(back + 32);
                    }
                }
            }
            for (int f : found) {
                if (sets.get(at).add(f)) {
                    todo.add(f);
                }
            }
        }
        return whole;
    }

    private int firstPartByNothing() {
        for (int i = 1; i < tokens.size(); i++) {
            if (tokens.get(i - 1).equals("/") && tokens.get(i).matches("0{1,4}")) {
                return places.get(i);
            }
        }
        return -1;
    }

    private int firstTooMany() {
        int lines = 0;
        StringBuilder open = new StringBuilder();
        for (int i = 0; i < tokens.size(); i++) {
            char kind = kind(tokens.get(i));
            if (kind == 'p' || kind == 'b') {
                lines++;
            }
            if (kind == 'n' || kind == '(') {
                open.append(kind);
            }
            if (lines > 16 || open.length() > 8) {
                return places.get(i);
            }
            if (kind == ')') {
                dropNots(open);
                if (open.length() > 0) {
                    open.setLength(open.length() - 1);
                }
                dropNots(open);
            }
            if (kind == 'o' || kind == 'a' || kind == ';') {
                dropNots(open);
            }
        }
        return -1;
    }

    private static void dropNots(StringBuilder open) {
        while (open.length() > 0 && open.charAt(open.length() - 1) == 'n') {
            open.setLength(open.length() - 1);
        }
    }

    int lines() {
        return (int) tokens.stream().filter(";"::equals).count();
    }

    boolean lets(int[] facts) {
        List<String> rest = tokens;
        while (!rest.isEmpty()) {
            int end = rest.indexOf(";");
            if (end == 1 || any(rest.subList(2, end), facts)) {
                return rest.get(0).equals("pay");
            }
            rest = rest.subList(end + 1, rest.size());
        }
        return true;
    }

    private static int lastOutside(List<String> row, List<String> signs) {
        int depth = 0;
        for (int i = row.size() - 1; i >= 0; i--) {
            depth += row.get(i).equals(")") ? 1 : row.get(i).equals("(") ? -1 : 0;
            if (depth == 0 && signs.contains(row.get(i))) {
                return i;
            }
        }
        return -1;
    }

    private static boolean any(List<String> row, int[] facts) {
        int or = lastOutside(row, List.of("or"));
        if (or >= 0) {
            return any(row.subList(0, or), facts) || any(row.subList(or + 1, row.size()), facts);
        }
        int and = lastOutside(row, List.of("and"));
        if (and >= 0) {
            return any(row.subList(0, and), facts) && any(row.subList(and + 1, row.size()), facts);
        }
        if (row.get(0).equals("not")) {
            return !any(row.subList(1, row.size()), facts);
        }
        if (row.get(0).equals("(")) {
            return any(row.subList(1, row.size() - 1), facts);
        }
        int sign = lastOutside(row, List.of("<", "=", ">"));
        int left = value(row.subList(0, sign), facts);
        int right = value(row.subList(sign + 1, row.size()), facts);
        switch (row.get(sign)) {
            case "<": return left < right;
            case "=": return left == right;
            default: return left > right;
        }
    }

    private static int value(List<String> row, int[] facts) {
        int sign = lastOutside(row, List.of("+", "-"));
        if (sign < 0) {
            sign = lastOutside(row, List.of("*", "/"));
        }
        if (sign < 0) {
            int fact = FACTS.indexOf(row.get(0));
            return fact >= 0 ? facts[fact] : Integer.parseInt(row.get(0));
        }
        int left = value(row.subList(0, sign), facts);
        int right = value(row.subList(sign + 1, row.size()), facts);
        switch (row.get(sign)) {
            case "+": return left + right;
            case "-": return left - right;
            case "*": return left * right;
            default: return left / right;
        }
    }
}
