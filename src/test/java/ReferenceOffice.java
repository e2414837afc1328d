import java.math.BigDecimal;
import java.math.BigInteger;
import java.math.RoundingMode;
import java.util.ArrayList;
import java.util.Collections;
import java.util.HashMap;
import java.util.List;
import java.util.Map;
import java.util.NoSuchElementException;
import java.util.TreeSet;

/** The document once more, by other means (trees, exact numbers, maps), for runs beside the program. */
final class ReferenceOffice {
    private static final BigInteger LARGEST = BigInteger.TEN.pow(12);

    private String pad = "";
    private final Map<Integer, String> formulas = new HashMap<>();
    private final Map<List<Integer>, Integer> filed = new HashMap<>();
    private final Map<List<Integer>, List<BigInteger>> assessed = new HashMap<>();
    private final List<List<int[]>> tables = List.of(new ArrayList<>(), new ArrayList<>(), new ArrayList<>());
    private final RoundingMode[] roundings = {RoundingMode.FLOOR, RoundingMode.FLOOR, RoundingMode.FLOOR};
    private final List<List<Object[]>> accounts = List.of(new ArrayList<>(), new ArrayList<>(), new ArrayList<>());
    private int totalLine = 11;
    private int rate = 0;

    /** What a formula is worked out with. */
    private record Place(List<BigInteger> now, List<BigInteger> before) {
    }

    private interface Tree {
        BigInteger worked(Place place);
    }

    boolean type(char c) {
        boolean taken = pad.length() < 40 && String.valueOf(c).matches("[A-L0-9'+*%<>?:(),mxt-]");
        pad += taken ? String.valueOf(c) : "";
        return taken;
    }

    int clear() {
        int had = pad.length();
        pad = "";
        return had;
    }

    int define(int line) {
        exists(line, 12);
        parsed(pad);
        formulas.put(line, pad);
        pad = "";
        return names(formulas.get(line)).size();
    }

    boolean input(int line) {
        exists(line, 12);
        return formulas.remove(line) != null;
    }

    int total(int line) {
        exists(line, 12);
        int was = totalLine;
        totalLine = line;
        return was;
    }

    int bracket(int table, int beginning, int thousandths) {
        exists(table, 3);
        List<int[]> brackets = tables.get(table);
        int least = brackets.isEmpty() ? 0 : brackets.get(brackets.size() - 1)[0] + 1;
        within(beginning, least, 1000000000);
        within(thousandths, 0, 1000);
        state(brackets.size() < 4);
        brackets.add(new int[] {beginning, thousandths});
        return brackets.size();
    }

    int reset(int table, int rounding) {
        exists(table, 3);
        within(rounding, 0, 2);
        int had = tables.get(table).size();
        tables.get(table).clear();
        roundings[table] = List.of(RoundingMode.FLOOR, RoundingMode.HALF_UP, RoundingMode.HALF_EVEN).get(rounding);
        return had;
    }

    int order(int place) {
        within(place, 0, 11);
        List<Integer> lines = ordered();
        state(place < lines.size());
        return lines.get(place);
    }

    int file(int taxpayer, int year, int line, int v) {
        exists(taxpayer, 3);
        exists(year, 4);
        exists(line, 12);
        argument(!formulas.containsKey(line));
        within(v, -1000000000, 1000000000);
        Integer was = filed.put(List.of(taxpayer, year, line), v);
        return was == null ? 0 : was;
    }

    long assess(int taxpayer, int year) {
        exists(taxpayer, 3);
        exists(year, 4);
        state(ordered().size() == 12 && accounts.get(taxpayer).size() < 24);
        List<BigInteger> now = new ArrayList<>();
        for (int line = 0; line < 12; line++) {
            now.add(BigInteger.valueOf(filed.getOrDefault(List.of(taxpayer, year, line), 0)));
        }
        List<BigInteger> none = Collections.nCopies(13, BigInteger.ZERO);
        List<BigInteger> before = assessed.getOrDefault(List.of(taxpayer, year - 1), none);
        for (int line : ordered()) {
            if (formulas.containsKey(line)) {
                now.set(line, parsed(formulas.get(line)).worked(new Place(now, before)));
            }
        }
        now.add(now.get(totalLine));
        List<BigInteger> last = assessed.put(List.of(taxpayer, year), now);
        post(taxpayer, 0, year, now.get(12).subtract(last == null ? BigInteger.ZERO : last.get(12)));
        return now.get(12).longValueExact();
    }

    long value(int taxpayer, int year, int line) {
        return latest(taxpayer, year, line).get(line).longValueExact();
    }

    double share(int taxpayer, int year, int line) {
        List<BigInteger> values = latest(taxpayer, year, line);
        return values.get(12).signum() == 0 ? 0.0 : values.get(line).doubleValue() / values.get(12).doubleValue();
    }

    long pay(int taxpayer, int amount) {
        exists(taxpayer, 3);
        within(amount, 1, 1000000000);
        state(accounts.get(taxpayer).size() < 24);
        post(taxpayer, 1, -1, BigInteger.valueOf(-amount));
        return balance(taxpayer);
    }

    int interest(int hundredths) {
        within(hundredths, 0, 30);
        int was = rate;
        rate = hundredths;
        return was;
    }

    int pass(int days) {
        within(days, 1, 1000);
        Map<Integer, BigInteger> charged = new HashMap<>();
        for (int taxpayer = 0; taxpayer < 3; taxpayer++) {
            BigInteger due = BigInteger.valueOf(Math.max(0, balance(taxpayer)));
            BigInteger times = BigInteger.valueOf((long) rate * days);
            BigInteger interest = due.multiply(times).divide(BigInteger.valueOf(36500));
            if (interest.signum() != 0) {
                charged.put(taxpayer, interest);
            }
        }
        for (int taxpayer : charged.keySet()) {
            state(accounts.get(taxpayer).size() < 24);
        }
        charged.forEach((taxpayer, amount) -> post(taxpayer, 2, -1, amount));
        return charged.size();
    }

    long balance(int taxpayer) {
        exists(taxpayer, 3);
        BigInteger sum = BigInteger.ZERO;
        for (Object[] posting : accounts.get(taxpayer)) {
            sum = sum.add((BigInteger) posting[2]);
        }
        return sum.longValueExact();
    }

    long posting(int taxpayer, int i, int what) {
        exists(taxpayer, 3);
        within(i, 0, accounts.get(taxpayer).size() - 1);
        within(what, 0, 2);
        return new BigDecimal(accounts.get(taxpayer).get(i)[what].toString()).longValueExact();
    }

    private static void exists(int number, int end) {
        if (number < 0 || number >= end) {
            throw new NoSuchElementException();
        }
    }

    private static void within(int number, int least, int most) {
        argument(number >= least && number <= most);
    }

    private static void argument(boolean holds) {
        if (!holds) {
            throw new IllegalArgumentException();
        }
    }

    private static void state(boolean holds) {
        if (!holds) {
            throw new IllegalStateException();
        }
    }

    private static BigInteger checked(BigInteger value) {
        if (value.abs().compareTo(LARGEST) > 0) {
            throw new ArithmeticException();
        }
        return value;
    }

    private void post(int taxpayer, int kind, int year, BigInteger amount) {
        accounts.get(taxpayer).add(new Object[] {kind, year, amount});
    }

    private List<BigInteger> latest(int taxpayer, int year, int line) {
        exists(taxpayer, 3);
        exists(year, 4);
        exists(line, 12);
        state(assessed.containsKey(List.of(taxpayer, year)));
        return assessed.get(List.of(taxpayer, year));
    }

    private static TreeSet<Integer> names(String formula) {
        TreeSet<Integer> names = new TreeSet<>();
        formula.replaceAll("[A-L]'", "").chars().filter(c -> c >= 'A' && c <= 'L').forEach(c -> names.add(c - 'A'));
        return names;
    }

    private List<Integer> ordered() {
        List<Integer> lines = new ArrayList<>();
        TreeSet<Integer> left = new TreeSet<>(List.of(0, 1, 2, 3, 4, 5, 6, 7, 8, 9, 10, 11));
        while (true) {
            Integer lowest = left.stream()
                    .filter(line -> lines.containsAll(names(formulas.getOrDefault(line, "")))).findFirst().orElse(null);
            if (lowest == null) {
                return lines;
            }
            left.remove(lowest);
            lines.add(lowest);
        }
    }

    private BigInteger madeBy(int table, BigInteger v) {
        BigDecimal sum = BigDecimal.ZERO;
        List<int[]> brackets = tables.get(table);
        for (int i = 0; i < brackets.size(); i++) {
            BigInteger from = BigInteger.valueOf(brackets.get(i)[0]);
            BigInteger to = i + 1 < brackets.size() ? v.min(BigInteger.valueOf(brackets.get(i + 1)[0])) : v;
            BigInteger part = to.subtract(from).max(BigInteger.ZERO);
            sum = sum.add(new BigDecimal(part).multiply(BigDecimal.valueOf(brackets.get(i)[1], 3)));
        }
        return checked(sum.setScale(0, roundings[table]).toBigIntegerExact());
    }

    private Tree parsed(String text) {
        return formula(text, 0);
    }

    /** Splits the text where < or >, ? and : stand outside all ( ); other parts of the grammar do likewise. */
    private Tree formula(String text, int depth) {
        int sign = outside(text, "<>", 0);
        if (sign < 0) {
            return sum(text, depth);
        }
        int question = outside(text, "?", sign);
        int colon = question < 0 ? -1 : matchingColon(text, question);
        argument(question > 0 && colon > 0);
        Tree left = sum(text.substring(0, sign), depth);
        Tree right = sum(text.substring(sign + 1, question), depth);
        Tree first = formula(text.substring(question + 1, colon), depth);
        Tree second = formula(text.substring(colon + 1), depth);
        int wanted = text.charAt(sign) == '<' ? -1 : 1;
        return place -> (left.worked(place).compareTo(right.worked(place)) == wanted ? first : second).worked(place);
    }

    private Tree sum(String text, int depth) {
        int sign = -1;
        for (int next = outside(text, "+-", 0); next >= 0; next = outside(text, "+-", next + 1)) {
            sign = next;
        }
        if (sign < 0) {
            return part(text, depth);
        }
        Tree left = sum(text.substring(0, sign), depth);
        Tree right = part(text.substring(sign + 1), depth);
        boolean plus = text.charAt(sign) == '+';
        return place -> {
            BigInteger value = left.worked(place);
            BigInteger other = right.worked(place);
            return checked(plus ? value.add(other) : value.subtract(other));
        };
    }

    private Tree part(String text, int depth) {
        int star = outside(text, "*", 0);
        if (star < 0) {
            return unit(text, depth);
        }
        argument(text.substring(star).matches("\\*[0-9]{1,3}%"));
        BigDecimal percent = new BigDecimal(text.substring(star + 1, text.length() - 1)).movePointLeft(2);
        Tree unit = unit(text.substring(0, star), depth);
        return place -> checked(new BigDecimal(unit.worked(place)).multiply(percent)
                .setScale(0, RoundingMode.HALF_EVEN).toBigIntegerExact());
    }

    private Tree unit(String text, int depth) {
        if (text.matches("[A-L]'?")) {
            int line = text.charAt(0) - 'A';
            return text.length() == 1 ? place -> place.now().get(line) : place -> place.before().get(line);
        }
        if (text.matches("[0-9]{1,6}")) {
            BigInteger number = new BigInteger(text);
            return place -> number;
        }
        argument(depth < 4 && text.matches("(m|x|t[0-2])?\\(.*\\)"));
        int open = text.indexOf('(');
        String inside = text.substring(open + 1, text.length() - 1);
        if (open == 0) {
            return formula(inside, depth + 1);
        }
        if (text.charAt(0) == 't') {
            Tree of = formula(inside, depth + 1);
            int table = text.charAt(1) - '0';
            return place -> madeBy(table, of.worked(place));
        }
        int comma = outside(inside, ",", 0);
        argument(comma >= 0);
        Tree first = formula(inside.substring(0, comma), depth + 1);
        Tree second = formula(inside.substring(comma + 1), depth + 1);
        boolean lesser = text.charAt(0) == 'm';
        return place -> {
            BigInteger one = first.worked(place);
            BigInteger other = second.worked(place);
            return lesser ? one.min(other) : one.max(other);
        };
    }

    /** Where the first of these characters stands outside all ( ), from a place on; -1 if nowhere. */
    private static int outside(String text, String wanted, int from) {
        int open = 0;
        for (int i = 0; i < text.length(); i++) {
            char c = text.charAt(i);
            open += c == '(' ? 1 : c == ')' ? -1 : 0;
            argument(open >= 0);
            if (i >= from && open == 0 && wanted.indexOf(c) >= 0) {
                return i;
            }
        }
        return -1;
    }

    private static int matchingColon(String text, int question) {
        int unanswered = 0;
        for (int i = outside(text, "?:", question); i >= 0; i = outside(text, "?:", i + 1)) {
            unanswered += text.charAt(i) == '?' ? 1 : -1;
            if (unanswered == 0) {
                return i;
            }
        }
        return -1;
    }
}
