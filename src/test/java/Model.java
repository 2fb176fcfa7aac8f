import java.util.ArrayList;
import java.util.HashMap;
import java.util.HashSet;
import java.util.List;
import java.util.Map;
import java.util.NoSuchElementException;
import java.util.Set;
import java.util.TreeMap;
import java.util.TreeSet;
import java.util.regex.Matcher;
import java.util.regex.Pattern;

/**
 * The document read as plainly as can be, with no thought of speed or room: what SsaForge must answer.
 * Operands are kept as they are written ("v3", "-7"); everything is searched for anew when it is asked.
 */
final class Model {
    static final class Row {
        String set;
        String op;
        String a;
        String b;

        Row(String set, String op, String a, String b) {
            this.set = set;
            this.op = op;
            this.a = a;
            this.b = b;
        }

        boolean uses(String register) {
            return register.equals(a) || register.equals(b);
        }

        boolean isOp() {
            return b != null;
        }

        boolean risky() {
            return (op.equals("/") || op.equals("%")) && (isReg(b) || b.equals("0"));
        }
    }

    static final class Phi {
        String set;
        TreeMap<Integer, String> args = new TreeMap<>();
    }

    static final class Block {
        List<Phi> phis = new ArrayList<>();
        List<Row> rows = new ArrayList<>();
        String kind;
        String use;
        int one = -1;
        int two = -1;

        Set<Integer> goals() {
            Set<Integer> goals = new TreeSet<>();
            if (!kind.equals("ret")) {
                goals.add(one);
                goals.add(two);
            }
            return goals;
        }
    }

    private final List<Byte> tape = new ArrayList<>();
    private int[] inputs = new int[0];
    private List<Block> code = null;
    private int form = -1;
    private int reason = 0;
    private String result = "";
    private final List<Integer> shownInts = new ArrayList<>();
    private final int[] toldInts = {0, 0, 0, 0, -1};

    static boolean isReg(String operand) {
        return operand != null && operand.startsWith("v");
    }

    static int num(String name) {
        return Integer.parseInt(name.substring(1));
    }

    // ---- the tape

    int feed(int a, int b, int c, int d, int e) {
        if (tape.size() + 20 > 8192) {
            throw new IndexOutOfBoundsException();
        }
        for (int v : new int[] {a, b, c, d, e}) {
            for (int shift = 24; shift >= 0; shift -= 8) {
                tape.add((byte) (v >> shift));
            }
        }
        return tape.size();
    }

    int end(int n) {
        if (n < 0 || n > tape.size()) {
            throw new IllegalArgumentException();
        }
        while (tape.size() > n) {
            tape.remove(tape.size() - 1);
        }
        return n;
    }

    int input() {
        inputs = new int[tape.size() / 4];
        for (int i = 0; i < inputs.length; i++) {
            for (int k = 0; k < 4; k++) {
                inputs[i] = inputs[i] << 8 | tape.get(4 * i + k) & 255;
            }
        }
        tape.clear();
        return inputs.length;
    }

    // ---- reading

    private static final Pattern SIGN = Pattern.compile(
            "v[0-9]+|b[0-9]+|[a-z]+|[0-9]+|<<|>>|<=|==|!=|[-+*/%&|^<(),:=]");
    private static final Pattern SPACE = Pattern.compile("(?:[\\t\\n\\r ]|;[^\\n]*(?:\\n|\\z))*");

    private static final class Wrong extends Exception {
        private static final long serialVersionUID = 1L;
        final int place;
        final int reason;

        Wrong(int place, int reason) {
            this.place = place;
            this.reason = reason;
        }
    }

    private record Sign(String text, int place) {
    }

    /** All signs up to the first that is none: that one is "?". */
    private static List<Sign> signs(String text) {
        List<Sign> signs = new ArrayList<>();
        int at = 0;
        String before = "";
        while (true) {
            Matcher space = SPACE.matcher(text).region(at, text.length());
            if (space.lookingAt()) {
                at = space.end();
            }
            if (at == text.length()) {
                signs.add(new Sign("", at));
                return signs;
            }
            Matcher m = SIGN.matcher(text).region(at, text.length());
            String sign = m.lookingAt() ? m.group() : "?";
            if (sign.equals("-") && !before.matches("v.*|-?[0-9]+")) {
                Matcher digits = Pattern.compile("-[0-9]+").matcher(text).region(at, text.length());
                if (digits.lookingAt()) {
                    sign = digits.group();
                }
            }
            String tidy = tidySign(sign);
            signs.add(new Sign(tidy, at));
            if (tidy.equals("?")) {
                return signs;
            }
            before = tidy;
            at += sign.length();
        }
    }

    private static String tidySign(String sign) {
        if (sign.matches("-?[0-9]+")) {
            java.math.BigInteger big = new java.math.BigInteger(sign);
            return big.bitLength() <= 31 ? big.toString() : "?";
        }
        if (sign.matches("[vb][0-9]+")) {
            java.math.BigInteger big = new java.math.BigInteger(sign.substring(1));
            int limit = sign.startsWith("v") ? 199 : 59;
            return big.compareTo(java.math.BigInteger.valueOf(limit)) <= 0 ? sign.charAt(0) + big.toString() : "?";
        }
        if (sign.matches("[a-z]+") && !Set.of("in", "show", "if", "jump", "ret", "phi").contains(sign)) {
            return "?";
        }
        return sign;
    }

    private static final Set<String> OPS =
            Set.of("+", "-", "*", "/", "%", "&", "|", "^", "<<", ">>", "<", "<=", "==", "!=");

    private final class Parser {
        final List<Sign> signs;
        int at = 0;
        final List<Block> blocks = new ArrayList<>();
        final List<Sign> labels = new ArrayList<>();
        final List<Sign> goals = new ArrayList<>();
        Sign row201 = null;
        int rows = 0;

        Parser(String text) {
            signs = signs(text);
        }

        String peek() {
            return signs.get(at).text();
        }

        Sign take(boolean fits) throws Wrong {
            if (!fits) {
                throw new Wrong(signs.get(at).place(), 1);
            }
            return signs.get(at++);
        }

        boolean operandNext() {
            return peek().matches("v[0-9]+|-?[0-9]+");
        }

        Sign goal() throws Wrong {
            Sign goal = take(peek().matches("b[0-9]+"));
            goals.add(goal);
            return goal;
        }

        List<Block> parse() throws Wrong {
            do {
                labels.add(take(peek().matches("b[0-9]+")));
                take(peek().equals(":"));
                Block block = new Block();
                blocks.add(block);
                while (peek().equals("show") || peek().matches("v[0-9]+")) {
                    rows++;
                    if (rows == 201) {
                        row201 = signs.get(at);
                    }
                    block.rows.add(row());
                }
                end(block);
            } while (!peek().isEmpty());
            rules();
            return blocks;
        }

        Row row() throws Wrong {
            Sign first = take(true);
            if (first.text().equals("show")) {
                return new Row(null, "show", take(operandNext()).text(), null);
            }
            take(peek().equals("="));
            if (peek().equals("in")) {
                take(true);
                return new Row(first.text(), "in", null, null);
            }
            String a = take(operandNext()).text();
            if (!OPS.contains(peek())) {
                return new Row(first.text(), "=", a, null);
            }
            String op = take(true).text();
            return new Row(first.text(), op, a, take(operandNext()).text());
        }

        void end(Block block) throws Wrong {
            Sign kind = take(Set.of("jump", "if", "ret").contains(peek()));
            block.kind = kind.text();
            if (block.kind.equals("jump")) {
                block.one = num(goal().text());
                block.two = block.one;
                return;
            }
            block.use = take(operandNext()).text();
            if (block.kind.equals("if")) {
                block.one = num(goal().text());
                block.two = num(goal().text());
            }
        }

        void rules() throws Wrong {
            TreeMap<Integer, Integer> broken = new TreeMap<>();
            Set<String> names = new HashSet<>();
            for (int i = 0; i < labels.size(); i++) {
                names.add(labels.get(i).text());
                names.add("b" + i);
                if (!labels.get(i).text().equals("b" + i)) {
                    broken.put(labels.get(i).place(), 2);
                }
            }
            for (Sign goal : goals) {
                if (goal.text().equals("b0") || !names.contains(goal.text())) {
                    broken.put(goal.place(), 3);
                }
            }
            if (row201 != null) {
                broken.put(row201.place(), 4);
            }
            if (!broken.isEmpty()) {
                throw new Wrong(broken.firstKey(), broken.firstEntry().getValue());
            }
        }
    }

    int text() {
        StringBuilder text = new StringBuilder();
        for (byte b : tape) {
            text.append((char) (b & 255));
        }
        tape.clear();
        try {
            code = new Parser(text.toString()).parse();
            form = 0;
            reason = 0;
            return -1;
        } catch (Wrong wrong) {
            code = null;
            form = -1;
            reason = wrong.reason;
            return wrong.place;
        }
    }

    // ---- ways

    private Set<Integer> reachedWithout(int from, int without) {
        Set<Integer> seen = new TreeSet<>();
        List<Integer> todo = new ArrayList<>(List.of(from));
        while (!todo.isEmpty()) {
            int b = todo.remove(todo.size() - 1);
            if (b != without && seen.add(b)) {
                todo.addAll(code.get(b).goals());
            }
        }
        return seen;
    }

    private Set<Integer> reached() {
        return reachedWithout(0, -1);
    }

    private boolean dominates(int a, int b) {
        return dominated().get(a).contains(b);
    }

    private String dominatedKey = "";
    private List<Set<Integer>> dominatedSets = List.of();

    /** For each block those that it dominates; kept as long as the ways stay the same. */
    private List<Set<Integer>> dominated() {
        StringBuilder key = new StringBuilder();
        code.forEach(block -> key.append(block.goals()));
        if (!key.toString().equals(dominatedKey)) {
            List<Set<Integer>> sets = new ArrayList<>();
            for (int a = 0; a < code.size(); a++) {
                Set<Integer> set = reached();
                if (set.contains(a)) {
                    set.removeAll(reachedWithout(0, a));
                } else {
                    set.clear();
                }
                sets.add(set);
            }
            dominatedKey = key.toString();
            dominatedSets = sets;
        }
        return dominatedSets;
    }

    private int idom(int b) {
        if (b == 0) {
            return -1;
        }
        for (int a = 0; a < code.size(); a++) {
            if (a != b && dominates(a, b)) {
                boolean last = true;
                for (int c = 0; c < code.size(); c++) {
                    last &= c == b || !dominates(c, b) || dominates(c, a);
                }
                if (last) {
                    return a;
                }
            }
        }
        return -2;
    }

    private Map<Integer, Integer> idoms() {
        Map<Integer, Integer> idoms = new TreeMap<>();
        for (int b = 0; b < code.size(); b++) {
            idoms.put(b, idom(b));
        }
        return idoms;
    }

    private List<Integer> order() {
        List<Integer> order = new ArrayList<>();
        putInOrder(0, idoms(), order);
        return order;
    }

    private void putInOrder(int b, Map<Integer, Integer> idoms, List<Integer> order) {
        order.add(b);
        for (int c : idoms.keySet()) {
            if (idoms.get(c) == b) {
                putInOrder(c, idoms, order);
            }
        }
    }

    private Set<Integer> frontier(int a) {
        Set<Integer> frontier = new TreeSet<>();
        for (int b = 0; b < code.size(); b++) {
            if (dominates(a, b)) {
                for (int g : code.get(b).goals()) {
                    if (g == a || !dominates(a, g)) {
                        frontier.add(g);
                    }
                }
            }
        }
        return frontier;
    }

    private List<Integer> preds(int b) {
        List<Integer> preds = new ArrayList<>();
        for (int p = 0; p < code.size(); p++) {
            if (code.get(p).goals().contains(b)) {
                preds.add(p);
            }
        }
        return preds;
    }

    private Set<Integer> loop(int head) {
        Set<Integer> loop = new TreeSet<>();
        for (int p : preds(head)) {
            if (dominates(head, p)) {
                loop.add(head);
                for (int b : reached()) {
                    if (b != head && reachedWithout(b, head).contains(p)) {
                        loop.add(b);
                    }
                }
            }
        }
        return loop;
    }

    // ---- live

    private Set<String> registers() {
        Set<String> all = new TreeSet<>((x, y) -> Integer.compare(num(x), num(y)));
        for (Block block : code) {
            for (Phi phi : block.phis) {
                all.add(phi.set);
                all.addAll(phi.args.values().stream().filter(Model::isReg).toList());
            }
            for (Row row : block.rows) {
                for (String s : new String[] {row.set, row.a, row.b}) {
                    if (isReg(s)) {
                        all.add(s);
                    }
                }
            }
            if (isReg(block.use)) {
                all.add(block.use);
            }
        }
        return all;
    }

    /** In front of the row, or of the end, with this number. */
    private boolean live(String register, int b, int row, Set<Integer> seen) {
        Block block = code.get(b);
        for (int i = row; i < block.rows.size(); i++) {
            if (block.rows.get(i).uses(register)) {
                return true;
            }
            if (register.equals(block.rows.get(i).set)) {
                return false;
            }
        }
        if (register.equals(block.use)) {
            return true;
        }
        for (int g : block.goals()) {
            boolean set = false;
            for (Phi phi : code.get(g).phis) {
                if (register.equals(phi.args.get(b))) {
                    return true;
                }
                set |= phi.set.equals(register);
            }
            if (!set && seen.add(g) && live(register, g, 0, seen)) {
                return true;
            }
        }
        return false;
    }

    private Set<String> liveAt(int b, int row) {
        Set<String> live = new TreeSet<>((x, y) -> Integer.compare(num(x), num(y)));
        for (String register : registers()) {
            if (live(register, b, row, new HashSet<>())) {
                live.add(register);
            }
        }
        return live;
    }

    private int peak() {
        int most = 0;
        for (int b = 0; b < code.size(); b++) {
            for (int i = 0; i <= code.get(b).rows.size(); i++) {
                Set<String> here = liveAt(b, i);
                if (i == 0) {
                    code.get(b).phis.forEach(phi -> here.add(phi.set));
                } else if (code.get(b).rows.get(i - 1).set != null) {
                    here.add(code.get(b).rows.get(i - 1).set);
                }
                most = Math.max(most, here.size());
            }
        }
        return most;
    }

    // ---- changing blocks

    private static List<Block> copyOf(List<Block> blocks) {
        List<Block> copy = new ArrayList<>();
        for (Block block : blocks) {
            Block other = new Block();
            for (Phi phi : block.phis) {
                Phi p = new Phi();
                p.set = phi.set;
                p.args.putAll(phi.args);
                other.phis.add(p);
            }
            for (Row row : block.rows) {
                other.rows.add(new Row(row.set, row.op, row.a, row.b));
            }
            other.kind = block.kind;
            other.use = block.use;
            other.one = block.one;
            other.two = block.two;
            copy.add(other);
        }
        return copy;
    }

    private void dropBlocks(Set<Integer> kept) {
        Map<Integer, Integer> number = new HashMap<>();
        for (int b : new TreeSet<>(kept)) {
            number.put(b, number.size());
        }
        for (int b : kept) {
            for (Phi phi : code.get(b).phis) {
                phi.args.keySet().retainAll(preds(b));
                phi.args.keySet().retainAll(kept);
            }
        }
        List<Block> left = new ArrayList<>();
        for (int b : new TreeSet<>(kept)) {
            Block block = code.get(b);
            if (!block.kind.equals("ret")) {
                block.one = number.get(block.one);
                block.two = number.get(block.two);
            }
            for (Phi phi : block.phis) {
                TreeMap<Integer, String> args = new TreeMap<>();
                phi.args.forEach((p, x) -> args.put(number.get(p), x));
                phi.args = args;
            }
            left.add(block);
        }
        code = left;
    }

    private void replaceEverywhere(String register, String by) {
        for (Block block : code) {
            block.phis.forEach(phi -> phi.args.replaceAll((p, x) -> x.equals(register) ? by : x));
            for (Row row : block.rows) {
                row.a = register.equals(row.a) ? by : row.a;
                row.b = register.equals(row.b) ? by : row.b;
            }
            block.use = register.equals(block.use) ? by : block.use;
        }
    }

    // ---- ssa

    int ssa() {
        if (form != 0) {
            throw new IllegalStateException();
        }
        List<Block> before = code;
        code = copyOf(code);
        dropBlocks(reached());
        Map<Integer, Set<String>> liveAtStart = new HashMap<>();
        Map<Integer, Set<Integer>> frontiers = new HashMap<>();
        for (int b = 0; b < code.size(); b++) {
            liveAtStart.put(b, liveAt(b, 0));
            frontiers.put(b, frontier(b));
        }
        int front = 0;
        for (String register : liveAtStart.get(0)) {
            code.get(0).rows.add(front++, new Row(register, "=", "0", null));
        }
        for (String register : registers()) {
            placePhis(register, liveAtStart, frontiers);
        }
        int set = 0;
        int all = 0;
        for (Block block : code) {
            set += block.phis.size() + block.rows.stream().filter(r -> r.set != null).count();
            all += block.phis.size() + block.rows.size();
        }
        if (set > 1000 || all > 2000) {
            code = before;
            throw new ArithmeticException();
        }
        renumber();
        form = 1;
        return count(3);
    }

    /** Registers come by number, so the phis of a block do too. */
    private void placePhis(String register, Map<Integer, Set<String>> live, Map<Integer, Set<Integer>> frontiers) {
        boolean changed = true;
        while (changed) {
            changed = false;
            for (int b = 0; b < code.size(); b++) {
                boolean sets = code.get(b).rows.stream().anyMatch(r -> register.equals(r.set))
                        || code.get(b).phis.stream().anyMatch(p -> register.equals(p.set));
                if (!sets) {
                    continue;
                }
                for (int f : frontiers.get(b)) {
                    boolean has = code.get(f).phis.stream().anyMatch(p -> register.equals(p.set));
                    if (!has && live.get(f).contains(register)) {
                        Phi phi = new Phi();
                        phi.set = register;
                        preds(f).forEach(p -> phi.args.put(p, register));
                        code.get(f).phis.add(phi);
                        changed = true;
                    }
                }
            }
        }
    }

    /** Names are looked up by going backward and up the tree, in a copy that keeps the old ones. */
    private int renumber() {
        List<Block> old = copyOf(code);
        Map<Integer, Integer> idoms = idoms();
        int next = 0;
        for (int b : order()) {
            for (Phi phi : code.get(b).phis) {
                phi.set = "v" + next++;
            }
            for (Row row : code.get(b).rows) {
                if (row.set != null) {
                    row.set = "v" + next++;
                }
            }
        }
        for (int b = 0; b < code.size(); b++) {
            Block block = code.get(b);
            for (int i = 0; i < block.rows.size(); i++) {
                block.rows.get(i).a = latest(old, idoms, b, i, block.rows.get(i).a);
                block.rows.get(i).b = latest(old, idoms, b, i, block.rows.get(i).b);
            }
            block.use = latest(old, idoms, b, block.rows.size(), block.use);
            for (Phi phi : block.phis) {
                phi.args.replaceAll((p, x) -> latest(old, idoms, p, code.get(p).rows.size(), x));
            }
        }
        return next;
    }

    private String latest(List<Block> old, Map<Integer, Integer> idoms, int b, int row, String operand) {
        if (!isReg(operand)) {
            return operand;
        }
        int end = row;
        for (int at = b; at >= 0; at = idoms.get(at)) {
            for (int i = end - 1; i >= 0; i--) {
                if (operand.equals(old.get(at).rows.get(i).set)) {
                    return code.get(at).rows.get(i).set;
                }
            }
            for (int i = 0; i < old.get(at).phis.size(); i++) {
                if (operand.equals(old.get(at).phis.get(i).set)) {
                    return code.get(at).phis.get(i).set;
                }
            }
            end = idoms.get(at) >= 0 ? old.get(idoms.get(at)).rows.size() : 0;
        }
        throw new AssertionError("nothing sets " + operand);
    }

    // ---- passes

    int pass(int k) {
        if (k < 1 || k > 7) {
            throw new IllegalArgumentException();
        }
        if (form != 1) {
            throw new IllegalStateException();
        }
        return switch (k) {
            case 1 -> constants();
            case 2 -> equalValues();
            case 3 -> dead();
            case 4 -> loops();
            case 5 -> joins();
            case 6 -> renumber();
            default -> colours();
        };
    }

    private static final String ANY = "any";

    static Integer compute(String op, int a, int b) {
        return switch (op) {
            case "+" -> a + b;
            case "-" -> a - b;
            case "*" -> a * b;
            case "/" -> b == 0 ? null : Integer.valueOf((int) ((long) a / b));
            case "%" -> b == 0 ? null : Integer.valueOf((int) ((long) a % b));
            case "&" -> a & b;
            case "|" -> a | b;
            case "^" -> a ^ b;
            case "<<" -> (int) ((long) a << (b & 31));
            case ">>" -> (int) ((long) a >> (b & 31));
            case "<" -> a < b ? 1 : 0;
            case "<=" -> a <= b ? 1 : 0;
            case "==" -> a == b ? 1 : 0;
            default -> a != b ? 1 : 0;
        };
    }

    private int constants() {
        Map<String, String> value = new HashMap<>();
        Set<List<Integer>> open = new HashSet<>();
        Set<Integer> gone = new TreeSet<>(Set.of(0));
        int before;
        do {
            before = value.values().stream().mapToInt(v -> v.equals(ANY) ? 2 : 1).sum() + open.size() + gone.size();
            for (int b : new ArrayList<>(gone)) {
                lookAt(b, value, open, gone);
            }
        } while (before
                != value.values().stream().mapToInt(v -> v.equals(ANY) ? 2 : 1).sum() + open.size() + gone.size());
        int answer = code.size() - gone.size();
        for (int b : gone) {
            Block block = code.get(b);
            int size = block.phis.size() + block.rows.size();
            block.phis.removeIf(p -> !ANY.equals(value.get(p.set)));
            block.rows.removeIf(r -> r.set != null && !ANY.equals(value.get(r.set)));
            answer += size - block.phis.size() - block.rows.size();
        }
        value.forEach((register, v) -> {
            if (!v.equals(ANY)) {
                replaceEverywhere(register, v);
            }
        });
        for (int b : gone) {
            Block block = code.get(b);
            if (block.kind.equals("if") && !isReg(block.use)) {
                int goal = block.use.equals("0") ? block.two : block.one;
                block.kind = "jump";
                block.use = null;
                block.one = goal;
                block.two = goal;
                answer++;
            }
        }
        dropBlocks(gone);
        return answer;
    }

    private static String valueOf(String operand, Map<String, String> value) {
        return isReg(operand) ? value.get(operand) : operand;
    }

    private void lookAt(int b, Map<String, String> value, Set<List<Integer>> open, Set<Integer> gone) {
        Block block = code.get(b);
        for (Phi phi : block.phis) {
            Set<String> values = new HashSet<>();
            phi.args.forEach((p, x) -> {
                if (open.contains(List.of(p, b)) && valueOf(x, value) != null) {
                    values.add(valueOf(x, value));
                }
            });
            if (!values.isEmpty()) {
                value.put(phi.set, values.size() == 1 ? values.iterator().next() : ANY);
            }
        }
        for (Row row : block.rows) {
            if (row.set != null) {
                String v = row.op.equals("in") ? ANY : rowValue(row, value);
                if (v != null) {
                    value.put(row.set, v);
                }
            }
        }
        String v = block.use == null ? null : valueOf(block.use, value);
        if (block.kind.equals("jump") || block.kind.equals("if") && v != null && !v.equals("0")) {
            open.add(List.of(b, block.one));
            gone.add(block.one);
        }
        if (block.kind.equals("if") && v != null && (v.equals("0") || v.equals(ANY))) {
            open.add(List.of(b, block.two));
            gone.add(block.two);
        }
    }

    private static String rowValue(Row row, Map<String, String> value) {
        String a = valueOf(row.a, value);
        String b = row.isOp() ? valueOf(row.b, value) : a;
        if (a == null || b == null) {
            return null;
        }
        if (a.equals(ANY) || b.equals(ANY)) {
            return ANY;
        }
        if (!row.isOp()) {
            return a;
        }
        Integer answer = compute(row.op, Integer.parseInt(a), Integer.parseInt(b));
        return answer == null ? ANY : answer.toString();
    }

    private int equalValues() {
        List<Block> old = copyOf(code);
        Map<String, String> by = new HashMap<>();
        for (int b : order()) {
            Block block = code.get(b);
            List<Phi> oldPhis = old.get(b).phis;
            for (int i = 0; i < oldPhis.size(); i++) {
                String other = likePhi(oldPhis, i);
                if (other != null) {
                    by.put(oldPhis.get(i).set, by.getOrDefault(other, other));
                }
            }
            for (Row row : block.rows) {
                row.a = by.getOrDefault(row.a, row.a);
                row.b = by.getOrDefault(row.b, row.b);
                String other = row.op.equals("=") ? row.a : row.isOp() ? likeRow(b, row, by) : null;
                if (other != null) {
                    by.put(row.set, other);
                }
            }
            block.use = by.getOrDefault(block.use, block.use);
        }
        for (Block block : code) {
            block.phis.removeIf(p -> by.containsKey(p.set));
            block.rows.removeIf(r -> by.containsKey(r.set));
            block.phis.forEach(p -> p.args.replaceAll((q, x) -> by.getOrDefault(x, x)));
        }
        return by.size();
    }

    private static String likePhi(List<Phi> phis, int i) {
        Phi phi = phis.get(i);
        for (int j = 0; j < i; j++) {
            if (phis.get(j).args.equals(phi.args)) {
                return phis.get(j).set;
            }
        }
        Set<String> others = new HashSet<>(phi.args.values());
        others.remove(phi.set);
        return others.size() == 1 ? others.iterator().next() : null;
    }

    private String likeRow(int b, Row row, Map<String, String> by) {
        for (int a = 0; a < code.size(); a++) {
            if (!dominates(a, b)) {
                continue;
            }
            for (Row other : code.get(a).rows) {
                if (other == row) {
                    break;
                }
                boolean same = other.op.equals(row.op) && row.a.equals(other.a) && row.b.equals(other.b);
                boolean round = other.op.equals(row.op) && row.a.equals(other.b) && row.b.equals(other.a)
                        && Set.of("+", "*", "&", "|", "^", "==", "!=").contains(row.op);
                if ((same || round) && !by.containsKey(other.set)) {
                    return other.set;
                }
            }
        }
        return null;
    }

    private int dead() {
        Set<String> needed = new HashSet<>();
        for (Block block : code) {
            needed.add(block.use);
            for (Row row : block.rows) {
                if (row.op.equals("show") || row.risky()) {
                    needed.add(row.a);
                    needed.add(row.b);
                }
            }
        }
        int before;
        do {
            before = needed.size();
            for (Block block : code) {
                block.phis.stream().filter(p -> needed.contains(p.set)).forEach(p -> needed.addAll(p.args.values()));
                block.rows.stream().filter(r -> r.set != null && needed.contains(r.set)).forEach(r -> {
                    needed.add(r.a);
                    needed.add(r.b);
                });
            }
        } while (needed.size() != before);
        int size = count(2) + count(3);
        for (Block block : code) {
            block.phis.removeIf(p -> !needed.contains(p.set));
            block.rows.removeIf(r -> r.set != null && !needed.contains(r.set) && !r.op.equals("in") && !r.risky());
        }
        return size - count(2) - count(3);
    }

    private int loops() {
        int moved = 0;
        for (int h = code.size() - 1; h >= 0; h--) {
            Set<Integer> loop = loop(h);
            List<Integer> outside = new ArrayList<>(preds(h));
            outside.removeAll(loop);
            if (loop.isEmpty() || outside.size() != 1 || !code.get(outside.get(0)).kind.equals("jump")) {
                continue;
            }
            Row row = takeLoose(loop);
            while (row != null) {
                code.get(outside.get(0)).rows.add(row);
                moved++;
                row = takeLoose(loop);
            }
        }
        return moved;
    }

    private Row takeLoose(Set<Integer> loop) {
        Set<String> set = new HashSet<>();
        for (int b : loop) {
            code.get(b).phis.forEach(p -> set.add(p.set));
            code.get(b).rows.forEach(r -> set.add(r.set));
        }
        set.remove(null);
        for (int b : loop) {
            for (Row row : code.get(b).rows) {
                boolean kind = row.op.equals("=") || row.isOp() && !row.risky();
                if (kind && !set.contains(row.a) && !set.contains(row.b)) {
                    code.get(b).rows.remove(row);
                    return row;
                }
            }
        }
        return null;
    }

    private int joins() {
        int joins = 0;
        for (int b = 1; b < code.size(); b++) {
            List<Integer> preds = preds(b);
            if (preds.size() != 1 || !code.get(preds.get(0)).kind.equals("jump")) {
                continue;
            }
            int p = preds.get(0);
            Block block = code.get(b);
            Block pred = code.get(p);
            for (Phi phi : block.phis) {
                replaceEverywhere(phi.set, phi.args.get(p));
            }
            pred.rows.addAll(block.rows);
            pred.kind = block.kind;
            pred.use = block.use;
            pred.one = block.one;
            pred.two = block.two;
            for (Block other : code) {
                for (Phi phi : other.phis) {
                    if (phi.args.containsKey(b)) {
                        phi.args.put(p, phi.args.remove(b));
                    }
                }
            }
            block.kind = "ret";
            block.use = "0";
            Set<Integer> kept = new TreeSet<>();
            for (int i = 0; i < code.size(); i++) {
                kept.add(i);
            }
            kept.remove(b);
            dropBlocks(kept);
            joins++;
            b = 0;
        }
        for (Block block : code) {
            if (block.kind.equals("if") && block.one == block.two) {
                block.kind = "jump";
                block.use = null;
                joins++;
            }
        }
        return joins;
    }

    private int colours() {
        Map<String, Integer> colour = new HashMap<>();
        for (int b : order()) {
            Block block = code.get(b);
            Set<String> behindPhis = liveAt(b, 0);
            block.phis.forEach(p -> behindPhis.add(p.set));
            block.phis.forEach(p -> colour.put(p.set, leastColour(behindPhis, colour)));
            for (int i = 0; i < block.rows.size(); i++) {
                if (block.rows.get(i).set != null) {
                    colour.put(block.rows.get(i).set, leastColour(liveAt(b, i + 1), colour));
                }
            }
        }
        for (Block block : code) {
            for (Phi phi : block.phis) {
                phi.set = "v" + colour.get(phi.set);
                phi.args.replaceAll((p, x) -> isReg(x) ? "v" + colour.get(x) : x);
            }
            for (Row row : block.rows) {
                row.set = isReg(row.set) ? "v" + colour.get(row.set) : row.set;
                row.a = isReg(row.a) ? "v" + colour.get(row.a) : row.a;
                row.b = isReg(row.b) ? "v" + colour.get(row.b) : row.b;
            }
            block.use = isReg(block.use) ? "v" + colour.get(block.use) : block.use;
        }
        form = 2;
        return new HashSet<>(colour.values()).size();
    }

    private static int leastColour(Set<String> live, Map<String, Integer> colour) {
        Set<Integer> taken = new HashSet<>();
        live.forEach(r -> taken.add(colour.getOrDefault(r, -1)));
        int least = 0;
        while (taken.contains(least)) {
            least++;
        }
        return least;
    }

    // ---- plain

    int plain() {
        if (form != 1 && form != 2) {
            throw new IllegalStateException();
        }
        List<Block> before = copyOf(code);
        int rows = count(2);
        int t = 0;
        while (registers().contains("v" + t)) {
            t++;
        }
        int old = code.size();
        Map<Integer, List<Integer>> preds = new TreeMap<>();
        for (int b = 0; b < old; b++) {
            preds.put(b, preds(b));
        }
        for (int b = 0; b < old; b++) {
            for (int p : preds.get(b)) {
                putMoves(b, p, "v" + t);
            }
        }
        code.forEach(block -> block.phis.clear());
        if (count(2) > 2000 || code.size() > 300) {
            code = before;
            throw new ArithmeticException();
        }
        form = 0;
        return count(2) - rows;
    }

    private void putMoves(int b, int p, String t) {
        List<String[]> moves = new ArrayList<>();
        for (Phi phi : code.get(b).phis) {
            if (!phi.set.equals(phi.args.get(p))) {
                moves.add(new String[] {phi.set, phi.args.get(p)});
            }
        }
        if (moves.isEmpty()) {
            return;
        }
        Block place = code.get(p);
        if (place.goals().size() > 1) {
            place = new Block();
            place.kind = "jump";
            place.one = b;
            place.two = b;
            if (code.get(p).one == b) {
                code.get(p).one = code.size();
            } else {
                code.get(p).two = code.size();
            }
            code.add(place);
        }
        while (!moves.isEmpty()) {
            String[] next = null;
            for (String[] move : moves) {
                if (next == null && moves.stream().noneMatch(m -> m[1].equals(move[0]))) {
                    next = move;
                }
            }
            if (next != null) {
                place.rows.add(new Row(next[0], "=", next[1], null));
                moves.remove(next);
            } else {
                String first = moves.get(0)[0];
                place.rows.add(new Row(t, "=", first, null));
                moves.forEach(m -> m[1] = m[1].equals(first) ? t : m[1]);
            }
        }
    }

    // ---- runs

    int run(int fuel) {
        if (fuel < 1 || fuel > 100000) {
            throw new IllegalArgumentException();
        }
        if (form < 0) {
            throw new IllegalStateException();
        }
        shownInts.clear();
        Map<String, Integer> regs = new HashMap<>();
        int steps = 0;
        int read = 0;
        int answer = 0;
        int ending = -1;
        int from = -1;
        int b = 0;
        outer:
        while (ending < 0) {
            Block block = code.get(b);
            if (!block.phis.isEmpty()) {
                if (steps == fuel) {
                    ending = 4;
                    break;
                }
                steps++;
                Map<String, Integer> together = new HashMap<>();
                for (Phi phi : block.phis) {
                    together.put(phi.set, get(regs, phi.args.get(from)));
                }
                regs.putAll(together);
            }
            for (Row row : block.rows) {
                if (steps == fuel) {
                    ending = 4;
                    break outer;
                }
                steps++;
                if (row.op.equals("show")) {
                    if (shownInts.size() == 512) {
                        ending = 5;
                        break outer;
                    }
                    shownInts.add(get(regs, row.a));
                } else if (row.op.equals("in")) {
                    regs.put(row.set, read < inputs.length ? inputs[read++] : 0);
                } else if (row.isOp()) {
                    Integer v = compute(row.op, get(regs, row.a), get(regs, row.b));
                    if (v == null) {
                        ending = 1;
                        break outer;
                    }
                    regs.put(row.set, v);
                } else {
                    regs.put(row.set, get(regs, row.a));
                }
            }
            if (steps == fuel) {
                ending = 4;
                break;
            }
            steps++;
            from = b;
            if (block.kind.equals("ret")) {
                ending = 0;
                answer = get(regs, block.use);
            } else {
                b = block.kind.equals("if") && get(regs, block.use) == 0 ? block.two : block.one;
            }
        }
        int[] now = {answer, shownInts.size(), steps, read, ending};
        System.arraycopy(now, 0, toldInts, 0, 5);
        return ending;
    }

    private static int get(Map<String, Integer> regs, String operand) {
        return isReg(operand) ? regs.getOrDefault(operand, 0) : Integer.parseInt(operand);
    }

    int told(int what) {
        if (what < 0 || what > 4) {
            throw new IllegalArgumentException();
        }
        return toldInts[what];
    }

    int shown(int i) {
        if (i < 0 || i >= shownInts.size()) {
            throw new IndexOutOfBoundsException();
        }
        return shownInts.get(i);
    }

    // ---- asking

    int count(int what) {
        return switch (what) {
            case 0 -> form;
            case 1 -> code == null ? 0 : code.size();
            case 2 -> code == null ? 0 : code.stream().mapToInt(b -> b.rows.size()).sum();
            case 3 -> code == null ? 0 : code.stream().mapToInt(b -> b.phis.size()).sum();
            case 4 -> code == null ? 0 : peak();
            case 5 -> reason;
            case 6 -> result.length();
            case 7 -> tape.size();
            default -> throw new IllegalArgumentException();
        };
    }

    int block(int b, int what) {
        if (what < 0 || what > 4) {
            throw new IllegalArgumentException();
        }
        if (code == null || b < 0 || b >= code.size()) {
            throw new NoSuchElementException();
        }
        return switch (what) {
            case 0 -> idom(b);
            case 1 -> preds(b).size();
            case 2 -> frontier(b).size();
            case 3 -> liveAt(b, 0).size();
            default -> innermost(b);
        };
    }

    private int innermost(int b) {
        int best = -1;
        for (int h = 0; h < code.size(); h++) {
            Set<Integer> loop = loop(h);
            if (loop.contains(b) && (best < 0 || loop.size() <= loop(best).size())) {
                best = h;
            }
        }
        return best;
    }

    String listing() {
        StringBuilder out = new StringBuilder();
        for (int b = 0; b < code.size(); b++) {
            Block block = code.get(b);
            out.append("b").append(b).append(":\n");
            for (Phi phi : block.phis) {
                List<String> args = new ArrayList<>();
                phi.args.forEach((p, x) -> args.add("b" + p + " " + x));
                out.append(phi.set).append(" = phi(").append(String.join(", ", args)).append(")\n");
            }
            for (Row row : block.rows) {
                switch (row.op) {
                    case "show" -> out.append("show ").append(row.a);
                    case "in" -> out.append(row.set).append(" = in");
                    case "=" -> out.append(row.set).append(" = ").append(row.a);
                    default -> out.append(String.join(" ", row.set, "=", row.a, row.op, row.b));
                }
                out.append("\n");
            }
            switch (block.kind) {
                case "ret" -> out.append("ret ").append(block.use);
                case "jump" -> out.append("jump b").append(block.one);
                default -> out.append("if ").append(block.use).append(" b").append(block.one).append(" b").append(block.two);
            }
            out.append("\n");
        }
        return out.toString();
    }

    int list() {
        if (code == null || listing().length() > 65536) {
            throw new IllegalStateException();
        }
        result = listing();
        return result.length();
    }

    long word(int i) {
        if (i < 0 || i >= result.length()) {
            throw new IndexOutOfBoundsException();
        }
        long word = 0;
        for (int k = i; k < i + 8; k++) {
            word = word << 8 | (k < result.length() ? result.charAt(k) : 0);
        }
        return word;
    }
}
