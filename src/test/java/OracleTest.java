import java.util.ArrayList;
import java.util.Arrays;
import java.util.Comparator;
import java.util.HashMap;
import java.util.HashSet;
import java.util.List;
import java.util.Map;
import java.util.NoSuchElementException;
import java.util.PriorityQueue;
import java.util.Random;
import java.util.Set;
import java.util.TreeMap;

/** Long random runs, each answer set against a slow model that is written the plainest way. */
public final class OracleTest {
    private static final int RUNS = 400;
    private static final int CALLS = 512;

    // ---- the model's lens: tokens first, then a tree that is walked for each value ----

    private static final class Fault extends RuntimeException {
        final int kind;
        final int place;

        Fault(int kind, int place) {
            this.kind = kind;
            this.place = place;
        }
    }

    private record Token(String text, int place) { }

    private record Tree(String kind, int number, List<Tree> parts) {
        int value(int[] old, int[] fresh) {
            switch (kind) {
                case "number": return number;
                case "old": return old[number];
                case "new": return fresh[number];
                case "if": return parts.get(parts.get(0).value(old, fresh) != 0 ? 1 : 2).value(old, fresh);
                case "not": return parts.get(0).value(old, fresh) != 0 ? 0 : 1;
                default: break;
            }
            int l = parts.get(0).value(old, fresh);
            int r = parts.get(1).value(old, fresh);
            switch (kind) {
                case "+": return l + r;
                case "-": return l - r;
                case "*": return l * r;
                case "/": return r == 0 ? 0 : (int) ((long) l / r);
                case "least": return l < r ? l : r;
                case "most": return l > r ? l : r;
                case "<": return l < r ? 1 : 0;
                case ">": return l > r ? 1 : 0;
                case "=": return l == r ? 1 : 0;
                case "and": return l != 0 && r != 0 ? 1 : 0;
                case "or": return l != 0 || r != 0 ? 1 : 0;
                default: throw new AssertionError(kind);
            }
        }
    }

    private static final class ModelLens {
        final List<Token> tokens = new ArrayList<>();
        int at = 0;
        int open = 0;
        boolean inNew = false;
        int clauses = 0;
        final Tree[] letters = new Tree[8];
        final boolean[] keep = new boolean[4];
        final List<Tree> laws = new ArrayList<>();

        ModelLens() {
            for (int i = 0; i < 4; i++) {
                letters[i] = new Tree("new", i, null);
                letters[4 + i] = new Tree("old", i, null);
            }
        }

        ModelLens(String text) {
            int i = 0;
            while (i < text.length()) {
                char c = text.charAt(i);
                int from = i;
                i++;
                if (c == ' ') {
                    continue;
                }
                String more = c >= '0' && c <= '9' ? "[0-9]" : c >= 'a' && c <= 'z' ? "[a-z]" : null;
                while (more != null && i < text.length() && text.substring(i, i + 1).matches(more)) {
                    i++;
                }
                String token = text.substring(from, i);
                boolean single = token.matches("[a-zA-Z]");
                if (single && i < text.length() && text.substring(i, i + 1).matches("[a-zA-Z]")) {
                    token = "?" + token;
                }
                tokens.add(new Token(token, from));
            }
            tokens.add(new Token("", text.length()));
            while (!peek().isEmpty()) {
                clause();
            }
        }

        String peek() {
            return tokens.get(at).text;
        }

        Fault fault(int kind) {
            return new Fault(kind, tokens.get(at).place);
        }

        void expect(String text) {
            if (!peek().equals(text)) {
                throw fault(1);
            }
            at++;
        }

        void clause() {
            String head = peek();
            if (!head.matches("[a-dA-D]|keep|law")) {
                throw fault(1);
            }
            clauses++;
            if (clauses > 16) {
                throw fault(3);
            }
            at++;
            inNew = head.matches("[A-D]");
            if (head.equals("keep")) {
                if (!peek().matches("[a-d]")) {
                    throw fault(1);
                }
                keep[peek().charAt(0) - 'a'] = true;
                at++;
            } else if (head.equals("law")) {
                laws.add(any());
            } else {
                expect("=");
                int letter = inNew ? 4 + head.charAt(0) - 'A' : head.charAt(0) - 'a';
                letters[letter] = sum();
            }
            expect(";");
        }

        Tree two(String kind, Tree l, Tree r) {
            return new Tree(kind, 0, List.of(l, r));
        }

        Tree sum() {
            Tree l = product();
            while (peek().matches("[+-]")) {
                String kind = peek();
                at++;
                l = two(kind, l, product());
            }
            return l;
        }

        Tree product() {
            Tree l = unit();
            while (peek().matches("[*/]")) {
                String kind = peek();
                at++;
                l = two(kind, l, unit());
            }
            return l;
        }

        void opening(String text) {
            if (!peek().equals(text)) {
                throw fault(1);
            }
            if (open == 6) {
                throw fault(3);
            }
            open++;
            at++;
        }

        void closing(String text) {
            expect(text);
            open--;
        }

        Tree unit() {
            String token = peek();
            if (token.matches("[0-9]+")) {
                if (new java.math.BigInteger(token).compareTo(java.math.BigInteger.valueOf(9999)) > 0) {
                    throw fault(2);
                }
                at++;
                return new Tree("number", Integer.parseInt(token), null);
            }
            if (token.matches("[a-d]")) {
                at++;
                return new Tree("old", token.charAt(0) - 'a', null);
            }
            if (token.matches("[A-D]") && !inNew) {
                at++;
                return new Tree("new", token.charAt(0) - 'A', null);
            }
            if (token.equals("(")) {
                opening("(");
                Tree inside = sum();
                closing(")");
                return inside;
            }
            if (token.equals("least") || token.equals("most")) {
                at++;
                opening("(");
                Tree l = sum();
                expect(",");
                Tree r = sum();
                closing(")");
                return two(token, l, r);
            }
            if (token.equals("if")) {
                at++;
                opening("(");
                Tree c = any();
                expect(",");
                Tree l = sum();
                expect(",");
                Tree r = sum();
                closing(")");
                return new Tree("if", 0, List.of(c, l, r));
            }
            throw fault(1);
        }

        Tree any() {
            Tree l = all();
            while (peek().equals("or")) {
                at++;
                l = two("or", l, all());
            }
            return l;
        }

        Tree all() {
            Tree l = test();
            while (peek().equals("and")) {
                at++;
                l = two("and", l, test());
            }
            return l;
        }

        Tree test() {
            if (peek().equals("not")) {
                opening("not");
                Tree inside = test();
                open--;
                return new Tree("not", 0, List.of(inside));
            }
            if (peek().equals("[")) {
                opening("[");
                Tree inside = any();
                closing("]");
                return inside;
            }
            Tree l = sum();
            String kind = peek();
            if (!kind.matches("[<>=]")) {
                throw fault(1);
            }
            at++;
            return two(kind, l, sum());
        }

        int[] seen(int[] old) {
            int[] fresh = new int[4];
            for (int i = 0; i < 4; i++) {
                fresh[i] = letters[4 + i] == null ? 0 : letters[4 + i].value(old, null);
            }
            return fresh;
        }

        int[] beside(int[] old) {
            int[] kept = new int[4];
            for (int i = 0; i < 4; i++) {
                kept[i] = keep[i] ? old[i] : 0;
            }
            return kept;
        }

        int[] putBack(int[] fresh, int[] kept) {
            int[] old = new int[4];
            for (int i = 0; i < 4; i++) {
                old[i] = letters[i] == null ? kept[i] : letters[i].value(kept, fresh);
            }
            return old;
        }

        boolean right(int[] fresh, int[] kept) {
            for (Tree law : laws) {
                if (law.value(kept, fresh) == 0) {
                    return false;
                }
            }
            return true;
        }
    }

    // ---- the model's plans and table ----

    private record Path(int node, int set, int cost, String steps) { }

    private static final class ModelRow {
        int kind;
        int[] old = new int[4];
        int[] fresh;
        int[] kept;
        Integer since;
        Integer by;
        final Map<Integer, Integer> writtenAt = new HashMap<>();
    }

    private static final class Model {
        String tape = "";
        ModelLens lens = new ModelLens();
        int fault = -1;
        final int[][] box = new int[4][2];
        int changes;
        int programs;
        final int[][] hold = new int[3][5];
        final int[][] need = new int[5][3];
        final int[] price = {5, 5, 5, 5, 5};
        final Set<List<Integer>> orders = new HashSet<>();
        final Set<Set<Integer>> bars = new HashSet<>();
        final Map<List<Integer>, Path> ways = new HashMap<>();
        final Map<List<Integer>, Set<Integer>> reached = new HashMap<>();
        final TreeMap<Integer, ModelRow> rows = new TreeMap<>();
        int stage;
        int tick;
        int first;
        int quiet = 10;
        int fall;
        final Map<List<Integer>, Integer> asked = new HashMap<>();

        Model() {
            for (int[] of : hold) {
                for (int i = 0; i < 5; i++) {
                    of[i] = i + 1;
                }
            }
        }

        static void bad(boolean is) {
            if (is) {
                throw new IllegalArgumentException();
            }
        }

        static void noIndex(boolean is) {
            if (is) {
                throw new IndexOutOfBoundsException();
            }
        }

        static void noSuch(boolean is) {
            if (is) {
                throw new NoSuchElementException();
            }
        }

        static void state(boolean is) {
            if (is) {
                throw new IllegalStateException();
            }
        }

        static boolean out(int v, int least, int most) {
            return v < least || v > most;
        }

        int call(String name, int[] a) {
            switch (name) {
                case "feed": return feed(a);
                case "lens": return tell(a[0]);
                case "fault": return fault;
                case "see":
                    bad(out(a[4], 0, 3));
                    return lens.seen(Arrays.copyOf(a, 4))[a[4]];
                case "put":
                    bad(out(a[5], 0, 3));
                    return lens.putBack(Arrays.copyOf(a, 4), lens.beside(new int[] {a[4], a[4], a[4], a[4]}))[a[5]];
                case "box":
                    bad(out(a[0], 0, 3) || out(a[1], -999, 999) || out(a[2], -999, 999)
                            || a[2] < a[1] || a[2] > a[1] + 7);
                    box[a[0]] = new int[] {a[1], a[2]};
                    return 0;
                case "agree":
                    bad(out(a[0], 0, 1) || out(a[1], 0, 3));
                    return unlike(a[0]).isEmpty() ? Integer.MIN_VALUE : unlike(a[0]).get(0)[a[1]];
                case "unlike":
                    bad(out(a[0], 0, 1));
                    return unlike(a[0]).size();
                case "lost": return lost();
                case "wrong":
                    return (int) boxed().stream().filter(r -> !lens.right(lens.seen(r), lens.beside(r))).count();
                default: return planCall(name, a);
            }
        }

        int feed(int[] a) {
            if (tape.length() > 380) {
                return -1;
            }
            for (int number : a) {
                for (byte b : java.nio.ByteBuffer.allocate(4).putInt(number).array()) {
                    tape += (char) (b & 255);
                }
            }
            return tape.length();
        }

        int tell(int n) {
            bad(out(n, 0, tape.length()));
            state(stage > 1);
            String text = tape.substring(0, n);
            tape = "";
            try {
                lens = new ModelLens(text);
                fault = -1;
                return lens.clauses;
            } catch (Fault f) {
                fault = f.place;
                return f.kind - 10;
            }
        }

        List<int[]> boxed() {
            List<int[]> all = new ArrayList<>();
            for (int a = box[0][0]; a <= box[0][1]; a++) {
                for (int b = box[1][0]; b <= box[1][1]; b++) {
                    for (int c = box[2][0]; c <= box[2][1]; c++) {
                        for (int d = box[3][0]; d <= box[3][1]; d++) {
                            all.add(new int[] {a, b, c, d});
                        }
                    }
                }
            }
            return all;
        }

        List<int[]> unlike(int kind) {
            List<int[]> not = new ArrayList<>();
            for (int[] row : boxed()) {
                int[] seen = lens.seen(row);
                int[] back = lens.putBack(seen, lens.beside(row));
                boolean is = kind == 0 ? Arrays.equals(back, row) : Arrays.equals(lens.seen(back), seen);
                if (!is) {
                    not.add(row);
                }
            }
            return not;
        }

        int lost() {
            Map<String, List<int[]>> groups = new HashMap<>();
            for (int[] row : boxed()) {
                String key = Arrays.toString(lens.seen(row)) + Arrays.toString(lens.beside(row));
                groups.computeIfAbsent(key, k -> new ArrayList<>()).add(row);
            }
            int bits = 0;
            for (List<int[]> group : groups.values()) {
                for (int i = 0; i < 4; i++) {
                    int letter = i;
                    if (!lens.keep[i] && group.stream().mapToInt(r -> r[letter]).distinct().count() > 1) {
                        bits |= 1 << i;
                    }
                }
            }
            return bits;
        }

        int planCall(String name, int[] a) {
            switch (name) {
                case "change":
                    forget();
                    return changes == 3 ? -1 : changes++;
                case "hold": {
                    noSuch(out(a[0], 0, changes - 1));
                    bad(out(a[1], 0, 4) || out(a[2], 0, 99));
                    int was = hold[a[0]][a[1]];
                    hold[a[0]][a[1]] = a[2];
                    forget();
                    return was;
                }
                case "order":
                    noSuch(out(a[0], 0, changes - 1) || out(a[1], 0, changes - 1));
                    bad(a[0] == a[1]);
                    forget();
                    return (a[2] == 1 ? bars.add(Set.of(a[0], a[1])) : orders.add(List.of(a[0], a[1]))) ? 1 : 0;
                case "program":
                    forget();
                    return programs == 5 ? -1 : programs++;
                case "need": {
                    noIndex(out(a[0], 0, programs - 1));
                    noSuch(out(a[1], 0, changes - 1));
                    bad(out(a[2], 0, 2));
                    int was = need[a[0]][a[1]];
                    need[a[0]][a[1]] = a[2];
                    forget();
                    return was;
                }
                case "price": {
                    noIndex(out(a[0], 0, programs - 1));
                    bad(out(a[1], 0, 99));
                    int was = price[a[0]];
                    price[a[0]] = a[1];
                    forget();
                    return was;
                }
                case "stands":
                    checkNode(a);
                    return stands(a[0], a[1]) ? 1 : 0;
                case "way": {
                    checkNode(a);
                    bad(a[2] < -2);
                    Path way = way(a[0], a[1]);
                    if (way == null) {
                        return -1;
                    }
                    return a[2] == -1 ? way.cost : a[2] == -2 ? way.steps.length()
                            : a[2] < way.steps.length() ? way.steps.charAt(a[2]) - '0' : -1;
                }
                case "fewest":
                    checkNode(a);
                    return fewest(a[0], a[1]);
                case "isBack":
                    checkNode(a);
                    return isBack(a[0], a[1]) ? 1 : 0;
                case "last":
                    checkNode(a);
                    return last(a[0], a[1]);
                default: return tableCall(name, a);
            }
        }

        void forget() {
            ways.clear();
            reached.clear();
        }

        int nodes() {
            return (int) Math.round(Math.pow(6, changes));
        }

        void checkNode(int[] a) {
            bad(out(a[0], 0, nodes() - 1) || out(a[1], 0, (1 << programs) - 1));
        }

        int stageOf(int node, int change) {
            return node / (int) Math.round(Math.pow(6, change)) % 6;
        }

        boolean stands(int node, int set) {
            for (int p = 0; p < programs; p++) {
                for (int c = 0; c < changes; c++) {
                    int wants = need[p][c] == 1 && (set & 1 << p) != 0 ? 2 : need[p][c];
                    int at = stageOf(node, c);
                    if (wants == 1 && at > 3 || wants == 2 && at < 2) {
                        return false;
                    }
                }
            }
            for (List<Integer> o : orders) {
                if (stageOf(node, o.get(1)) > stageOf(node, o.get(0))) {
                    return false;
                }
            }
            for (Set<Integer> bar : bars) {
                if (bar.stream().allMatch(c -> stageOf(node, c) >= 1 && stageOf(node, c) <= 4)) {
                    return false;
                }
            }
            return true;
        }

        List<Path> steps(Path from) {
            List<Path> next = new ArrayList<>();
            for (int c = 0; c < changes; c++) {
                int power = (int) Math.round(Math.pow(6, c));
                int at = stageOf(from.node, c);
                if (at < 5) {
                    next.add(new Path(from.node + power, from.set, from.cost + hold[c][at],
                            from.steps + (char) ('0' + c)));
                }
                if (at >= 1 && at <= 4) {
                    next.add(new Path(from.node - power, from.set, from.cost + 1, from.steps + (char) ('3' + c)));
                }
            }
            for (int p = 0; p < programs; p++) {
                if ((from.set & 1 << p) == 0) {
                    next.add(new Path(from.node, from.set | 1 << p, from.cost + price[p],
                            from.steps + (char) ('6' + p)));
                }
            }
            next.removeIf(path -> !stands(path.node, path.set));
            return next;
        }

        Path way(int node, int set) {
            List<Integer> key = List.of(node, set);
            if (!ways.containsKey(key)) {
                ways.put(key, findWay(node, set));
            }
            return ways.get(key);
        }

        Path findWay(int node, int set) {
            if (!stands(node, set)) {
                return null;
            }
            PriorityQueue<Path> queue = new PriorityQueue<>(Comparator.comparingInt((Path p) -> p.cost)
                    .thenComparingInt(p -> p.steps.length()).thenComparing(p -> p.steps));
            Set<Integer> done = new HashSet<>();
            queue.add(new Path(node, set, 0, ""));
            while (!queue.isEmpty()) {
                Path path = queue.poll();
                if (path.node == nodes() - 1) {
                    return path;
                }
                if (done.add(path.set * 1000 + path.node)) {
                    queue.addAll(steps(path));
                }
            }
            return null;
        }

        Set<Integer> reach(int node, int set) {
            List<Integer> key = List.of(node, set);
            if (reached.containsKey(key)) {
                return reached.get(key);
            }
            Set<Integer> all = new HashSet<>();
            List<Path> queue = new ArrayList<>();
            if (stands(node, set)) {
                queue.add(new Path(node, set, 0, ""));
            }
            while (!queue.isEmpty()) {
                Path path = queue.remove(queue.size() - 1);
                if (all.add(path.set * 1000 + path.node)) {
                    queue.addAll(steps(new Path(path.node, path.set, 0, "")));
                }
            }
            reached.put(key, all);
            return all;
        }

        int fewest(int node, int set) {
            return reach(node, set).stream().filter(p -> p % 1000 == nodes() - 1)
                    .mapToInt(p -> Integer.bitCount(p / 1000) - Integer.bitCount(set)).min().orElse(-1);
        }

        boolean isBack(int node, int set) {
            return reach(node, set).stream().anyMatch(p -> p % 1000 == 0);
        }

        int last(int node, int set) {
            Path way = way(node, set);
            if (way == null) {
                return -1;
            }
            int last = isBack(node, set) ? 0 : -1;
            Path at = new Path(node, set, 0, "");
            for (int i = 1; i <= way.steps.length(); i++) {
                String walked = way.steps.substring(0, i);
                at = steps(at).stream().filter(p -> p.steps.equals(walked)).findFirst().orElseThrow();
                last = isBack(at.node, at.set) ? i : last;
            }
            return last;
        }

        int tableCall(String name, int[] a) {
            switch (name) {
                case "go": return go();
                case "back": return back();
                case "insert": return insert(a[0]);
                case "delete":
                    noIndex(out(a[0], 0, 39));
                    return rows.remove(a[0]) != null ? 1 : 0;
                case "read": {
                    checkAsk(a, false);
                    asked.put(List.of(a[0], a[2], a[3], 0), tick);
                    ModelRow row = rows.get(a[1]);
                    return (a[2] == 0 ? oldOf(row) : newOf(row))[a[3]];
                }
                case "write": return write(a);
                case "first": {
                    bad(out(a[0], 0, 1));
                    int was = first;
                    first = a[0];
                    return was;
                }
                case "tick":
                    bad(out(a[0], 0, 1000));
                    state(tick + a[0] > 10000);
                    return tick += a[0];
                case "bite": return bite(a[0]);
                case "fall": {
                    bad(out(a[0], 0, 40));
                    int was = fall;
                    fall = a[0];
                    return was;
                }
                case "row": return row(a[0], a[1]);
                case "quiet": {
                    bad(out(a[0], 0, 1000));
                    int was = quiet;
                    quiet = a[0];
                    return was;
                }
                case "asked":
                    bad(out(a[0], 0, 7) || out(a[1], 0, 1) || out(a[2], 0, 3));
                    return asked.getOrDefault(List.of(a[0], a[1], a[2], a[3]), -1);
                case "still":
                    bad(out(a[0], 0, 3));
                    return asked.entrySet().stream()
                            .filter(e -> e.getKey().get(1) == 0 && e.getKey().get(2) == a[0] && e.getValue() >= a[1])
                            .mapToInt(e -> 1 << e.getKey().get(0)).reduce(0, (l, r) -> l | r);
                case "sum":
                    checkSpan(a);
                    return sum(a[0], a[1]);
                case "halves":
                    checkSpan(a);
                    return sum(a[0], a[1]) == 0 ? -1 : halves(a[0], a[1]);
                case "mend": return mend(a[0]);
                case "count": return count(a[0]);
                default: throw new AssertionError(name);
            }
        }

        int manyOf(int kind) {
            return (int) rows.values().stream().filter(r -> r.kind == kind).count();
        }

        int broken() {
            return (int) rows.values().stream().filter(r -> r.since != null).count();
        }

        boolean odd(ModelRow row) {
            return row.kind == 1 && !Arrays.equals(row.fresh, lens.seen(row.old));
        }

        int odds() {
            return (int) rows.values().stream().filter(this::odd).count();
        }

        int go() {
            boolean can = true;
            switch (stage) {
                case 2:
                    can = manyOf(0) == 0;
                    break;
                case 3:
                    can = manyOf(0) == 0 && manyOf(3) == 0 && broken() == 0 && odds() == 0;
                    break;
                case 4:
                    can = manyOf(0) == 0 && manyOf(3) == 0 && asked.entrySet().stream()
                            .noneMatch(e -> e.getKey().get(1) == 0 && e.getValue() >= tick - quiet);
                    break;
                case 5: return -1;
                default: break;
            }
            if (!can) {
                return 0;
            }
            stage++;
            if (stage == 5) {
                for (ModelRow row : rows.values()) {
                    row.kind = 2;
                    row.old = null;
                }
            }
            return 1;
        }

        int back() {
            if (stage == 0 || stage == 5) {
                return 0;
            }
            stage--;
            if (stage == 1) {
                for (ModelRow row : rows.values()) {
                    row.kind = 0;
                    row.fresh = null;
                    row.kept = null;
                    row.since = null;
                    row.by = null;
                }
            }
            return 1;
        }

        int insert(int key) {
            noIndex(out(key, 0, 39));
            if (rows.containsKey(key)) {
                return -1;
            }
            ModelRow row = new ModelRow();
            rows.put(key, row);
            if (stage == 5) {
                row.kind = 2;
                row.fresh = lens.seen(row.old);
                row.kept = lens.beside(row.old);
                row.old = null;
            } else if (stage >= 3) {
                lead(row);
            }
            return row.kind;
        }

        void lead(ModelRow row) {
            int[] fresh = lens.seen(row.old);
            int[] kept = lens.beside(row.old);
            if (lens.right(fresh, kept)) {
                row.kind = 1;
                row.fresh = fresh;
                row.kept = kept;
            } else {
                row.kind = 3;
            }
        }

        void checkAsk(int[] a, boolean written) {
            noIndex(out(a[1], 0, 39));
            bad(out(a[0], 0, 7) || out(a[2], 0, 1) || out(a[3], 0, 3));
            bad(written && out(a[4], -1000000, 1000000));
            noSuch(!rows.containsKey(a[1]));
        }

        int[] oldOf(ModelRow row) {
            return row.kind == 2 ? lens.putBack(row.fresh, row.kept) : row.old.clone();
        }

        int[] newOf(ModelRow row) {
            return row.kind == 1 || row.kind == 2 ? row.fresh.clone() : lens.seen(row.old);
        }

        int[] keptOf(ModelRow row) {
            return row.kind == 1 || row.kind == 2 ? row.kept.clone() : lens.beside(row.old);
        }

        int write(int[] a) {
            checkAsk(a, true);
            ModelRow row = rows.get(a[1]);
            if (Integer.valueOf(tick).equals(row.writtenAt.get(1 - a[2])) && first != a[2]) {
                return 0;
            }
            row.writtenAt.put(a[2], tick);
            asked.put(List.of(a[0], a[2], a[3], 1), tick);
            if (row.kind == 3) {
                row.kind = 0;
            }
            int[] values = a[2] == 0 ? oldOf(row) : newOf(row);
            values[a[3]] = a[4];
            if (a[2] == 0) {
                row.old = row.kind == 2 ? null : values;
                if (row.kind != 0) {
                    row.fresh = lens.seen(values);
                    row.kept = lens.beside(values);
                }
            } else {
                if (row.kind != 2) {
                    row.old = lens.putBack(values, keptOf(row));
                }
                row.fresh = row.kind == 0 ? null : values;
            }
            boolean right = row.kind == 0 || lens.right(row.fresh, row.kept);
            if (right) {
                row.since = null;
                row.by = null;
            } else if (row.since == null) {
                row.since = tick;
                row.by = a[0];
            }
            return 1;
        }

        int bite(int n) {
            bad(out(n, 1, 40));
            state(out(stage, 2, 4));
            List<ModelRow> taken = rows.values().stream().filter(r -> r.kind == 0).limit(n).toList();
            int told = fall;
            fall = 0;
            if (told > 0 && told <= taken.size()) {
                return -1;
            }
            taken.forEach(this::lead);
            return taken.size();
        }

        int row(int key, int what) {
            noIndex(out(key, 0, 39));
            bad(out(what, 0, 8));
            ModelRow row = rows.get(key);
            if (row == null) {
                return -1;
            }
            switch (what) {
                case 0: return row.kind;
                case 1: return row.since != null ? 1 : 0;
                case 2: return row.since != null ? row.since : -1;
                case 3: return row.by != null ? row.by : -1;
                case 4: return odd(row) ? 1 : 0;
                default: return keptOf(row)[what - 5];
            }
        }

        void checkSpan(int[] a) {
            noIndex(out(a[0], 0, 39) || out(a[1], 0, 39));
            bad(a[0] > a[1]);
        }

        int sum(int from, int to) {
            int[] times = {1, 3, 5, 7};
            int sum = 0;
            for (ModelRow row : rows.subMap(from, to + 1).values()) {
                for (int i = 0; row.kind == 1 && i < 4; i++) {
                    sum += times[i] * (row.fresh[i] - lens.seen(row.old)[i]);
                }
            }
            return sum;
        }

        int halves(int from, int to) {
            int middle = (from + to) / 2;
            return from == to ? from : sum(from, middle) != 0 ? halves(from, middle) : halves(middle + 1, to);
        }

        int mend(int key) {
            noIndex(out(key, 0, 39));
            noSuch(!rows.containsKey(key));
            ModelRow row = rows.get(key);
            if (!odd(row)) {
                return 0;
            }
            row.fresh = lens.seen(row.old);
            row.kept = lens.beside(row.old);
            return 1;
        }

        int count(int what) {
            int[] all = {stage, tick, rows.size(), manyOf(0), manyOf(1), manyOf(2), manyOf(3), broken(), odds(),
                lens.clauses, changes, programs, tape.length()};
            return out(what, 0, 12) ? -1 : all[what];
        }
    }

    // ---- the calls ----

    private static int real(LedTables x, String name, int[] a) {
        switch (name) {
            case "feed": return x.feed(a[0], a[1], a[2], a[3], a[4]);
            case "lens": return x.lens(a[0]);
            case "fault": return x.fault();
            case "see": return x.see(a[0], a[1], a[2], a[3], a[4]);
            case "put": return x.put(a[0], a[1], a[2], a[3], a[4], a[5]);
            case "box":
                x.box(a[0], a[1], a[2]);
                return 0;
            case "agree": return x.agree(a[0], a[1]);
            case "unlike": return x.unlike(a[0]);
            case "lost": return x.lost();
            case "wrong": return x.wrong();
            case "change": return x.change();
            case "hold": return x.hold(a[0], a[1], a[2]);
            case "order": return x.order(a[0], a[1], a[2] == 1);
            case "program": return x.program();
            case "need": return x.need(a[0], a[1], a[2]);
            case "price": return x.price(a[0], a[1]);
            case "stands": return x.stands(a[0], a[1]) ? 1 : 0;
            case "way": return x.way(a[0], a[1], a[2]);
            case "fewest": return x.fewest(a[0], a[1]);
            case "isBack": return x.isBack(a[0], a[1]) ? 1 : 0;
            case "last": return x.last(a[0], a[1]);
            case "go": return x.go();
            case "back": return x.back();
            case "insert": return x.insert(a[0]);
            case "delete": return x.delete(a[0]) ? 1 : 0;
            case "read": return x.read(a[0], a[1], a[2], a[3]);
            case "write": return x.write(a[0], a[1], a[2], a[3], a[4]);
            case "first": return x.first(a[0]);
            case "tick": return x.tick(a[0]);
            case "bite": return x.bite(a[0]);
            case "fall": return x.fall(a[0]);
            case "row": return x.row(a[0], a[1]);
            case "quiet": return x.quiet(a[0]);
            case "asked": return x.asked(a[0], a[1], a[2], a[3] == 1);
            case "still": return x.still(a[0], a[1]);
            case "sum": return x.sum(a[0], a[1]);
            case "halves": return x.halves(a[0], a[1]);
            case "mend": return x.mend(a[0]) ? 1 : 0;
            case "count": return x.count(a[0]);
            default: throw new AssertionError(name);
        }
    }

    // ---- what is asked ----

    private static final class Maker {
        final Random random;

        Maker(long seed) {
            random = new Random(seed);
        }

        int upTo(int n) {
            return random.nextInt(n);
        }

        /** Mostly from the range, now and then a little or far outside of it. */
        int about(int least, int most) {
            int kind = upTo(60);
            if (kind == 0) {
                return least - 1;
            }
            if (kind == 1) {
                return most + 1;
            }
            if (kind == 2) {
                return upTo(2) == 0 ? Integer.MIN_VALUE : Integer.MAX_VALUE;
            }
            return least + upTo(most - least + 1);
        }

        String pick(String... of) {
            return of[upTo(of.length)];
        }

        String blank() {
            return upTo(8) == 0 ? " " : "";
        }

        String sum(int depth, boolean inNew) {
            StringBuilder text = new StringBuilder(unit(depth, inNew));
            while (upTo(3) == 0) {
                text.append(blank()).append(pick("+", "-", "*", "/")).append(unit(depth, inNew));
            }
            return text.toString();
        }

        String unit(int depth, boolean inNew) {
            int kind = depth <= 0 ? upTo(4) : upTo(8);
            switch (kind) {
                case 0: return blank() + upTo(upTo(4) == 0 ? 10050 : 12);
                case 4: return blank() + "(" + sum(depth - 1, inNew) + ")";
                case 5: return blank() + pick("least", "most") + blank() + "(" + sum(depth - 1, inNew) + ","
                        + sum(depth - 1, inNew) + ")";
                case 6: return blank() + "if(" + any(depth - 1, inNew) + "," + sum(depth - 1, inNew) + ","
                        + sum(depth - 1, inNew) + ")";
                default: return blank() + (inNew && upTo(40) > 0 ? pick("a", "b", "c", "d")
                        : pick("a", "b", "c", "d", "A", "B", "C", "D"));
            }
        }

        String any(int depth, boolean inNew) {
            StringBuilder text = new StringBuilder(test(depth, inNew));
            while (upTo(4) == 0) {
                text.append(" ").append(pick("and ", "or ")).append(test(depth, inNew));
            }
            return text.toString();
        }

        String test(int depth, boolean inNew) {
            if (depth > 0 && upTo(4) == 0) {
                return "not " + test(depth - 1, inNew);
            }
            if (depth > 0 && upTo(4) == 0) {
                return "[" + any(depth - 1, inNew) + "]";
            }
            return sum(depth, inNew) + pick("<", ">", "=") + sum(depth, inNew);
        }

        String clause(int depth) {
            switch (upTo(6)) {
                case 0: return "keep " + pick("a", "b", "c", "d");
                case 1: return "law " + (upTo(2) == 0 ? pick("A", "B", "C", "D") + "<" + upTo(30) : any(depth, false));
                case 2:
                case 3: return pick("A", "B", "C", "D") + blank() + "=" + sum(depth, true);
                default: return pick("a", "b", "c", "d") + "=" + sum(depth, false);
            }
        }

        String lens() {
            int depth = upTo(5) == 0 ? 7 : upTo(3);
            int clauses = upTo(12) == 0 ? 15 + upTo(3) : upTo(8);
            StringBuilder text = new StringBuilder();
            if (upTo(3) == 0) {
                text.append("A=a;a=A;B=b;b=B;law A<100;");
            }
            for (int i = 0; i < clauses; i++) {
                String clause = clause(clauses > 12 ? 0 : depth);
                if (text.length() + clause.length() < 390) {
                    text.append(blank()).append(clause).append(";");
                }
            }
            if (upTo(3) == 0 && text.length() > 0) {
                int at = upTo(text.length());
                String spoilt = pick("", " ", ";", "(", ")", "[", "]", "not ", "9", "99999", "a", "A", "z", "Z", "=", ",",
                        "or", "\t", "keep", "\0");
                text.replace(at, Math.min(text.length(), at + upTo(2)), spoilt);
            }
            if (upTo(10) == 0) {
                text.setLength(upTo(text.length() + 1));
            }
            return text.length() > 400 ? text.substring(0, 400) : text.toString();
        }
    }

    private final LedTables real = new LedTables();
    private final Model model = new Model();
    private final Maker make;
    private final long seed;
    private int calls = 0;
    private boolean wrong = false;

    private OracleTest(long seed) {
        this.seed = seed;
        make = new Maker(seed);
    }

    private static String outcome(java.util.function.IntSupplier call) {
        try {
            return "" + call.getAsInt();
        } catch (IllegalStateException | IllegalArgumentException | NoSuchElementException | IndexOutOfBoundsException e) {
            return e.getClass().getSimpleName();
        }
    }

    private void check(String name, int... a) {
        if (calls++ >= CALLS || wrong) {
            return;
        }
        String due = outcome(() -> model.call(name, a));
        String got = outcome(() -> real(real, name, a));
        if (!due.equals(got)) {
            wrong = true;
            System.out.println("seed " + seed + ", call " + calls + ": " + name + Arrays.toString(a) + " answered " + got
                    + ", the model " + due);
        }
    }

    private void tellLens(String text) {
        for (int from = 0; from < text.length(); from += 20) {
            int[] numbers = new int[5];
            for (int i = 0; i < 20; i++) {
                int b = from + i < text.length() ? text.charAt(from + i) & 255 : make.upTo(256);
                numbers[i / 4] = numbers[i / 4] << 8 | b;
            }
            check("feed", numbers);
        }
        check("lens", make.upTo(40) == 0 ? make.about(-2, 402) : text.length());
        check("fault");
        check("count", 9);
    }

    private void lensCalls() {
        Maker m = make;
        switch (m.upTo(9)) {
            case 0:
                tellLens(m.lens());
                break;
            case 1:
                check("see", m.about(-20, 20), m.about(-20, 20), m.about(-20, 20), m.about(-20, 20), m.about(0, 3));
                break;
            case 2:
                check("put", m.about(-20, 20), m.about(-20, 20), m.about(-20, 20), m.about(-20, 20), m.about(-9, 9),
                        m.about(0, 3));
                break;
            case 3: {
                int least = m.about(-4, 4);
                check("box", m.about(0, 3), least, least + m.about(0, m.upTo(4) == 0 ? 7 : 2));
                break;
            }
            case 4:
                check("agree", m.about(0, 1), m.about(0, 3));
                break;
            case 5:
                check("unlike", m.about(0, 1));
                break;
            case 6:
                check("lost");
                break;
            case 7:
                check("wrong");
                break;
            default:
                check("feed", m.upTo(9), 1, 2, 3, -m.upTo(9));
                break;
        }
    }

    private void planCalls() {
        Maker m = make;
        switch (m.upTo(12)) {
            case 0:
                check("change");
                break;
            case 1:
                check("hold", m.about(0, 2), m.about(0, 4), m.upTo(2) == 0 ? m.upTo(3) : m.about(0, 99));
                break;
            case 2:
                if (m.upTo(3) == 0) {
                    check("order", m.about(0, 2), m.about(0, 2), m.upTo(2));
                }
                break;
            case 3:
                check("program");
                break;
            case 4:
                check("need", m.about(0, 4), m.about(0, 2), m.about(0, 2));
                break;
            case 5:
                check("price", m.about(0, 4), m.upTo(2) == 0 ? m.upTo(3) : m.about(0, 99));
                break;
            default:
                askNode();
                break;
        }
    }

    private void askNode() {
        Maker m = make;
        int node = m.upTo(3) == 0 ? 0 : m.about(0, model.nodes() - 1);
        int set = m.upTo(2) == 0 ? 0 : m.about(0, (1 << model.programs) - 1);
        check("stands", node, set);
        check("way", node, set, -1);
        check("way", node, set, -2);
        for (int k = 0; k < 25 && m.upTo(12) > 0; k++) {
            check("way", node, set, k);
        }
        check("way", node, set, m.about(-2, 30));
        check("fewest", node, set);
        check("isBack", node, set);
        check("last", node, set);
    }

    private void tableCalls() {
        Maker m = make;
        int key = m.upTo(3) > 0 ? m.upTo(8) : m.about(0, 39);
        switch (m.upTo(20)) {
            case 0:
                check("go");
                break;
            case 1:
                if (m.upTo(4) == 0) {
                    check("back");
                }
                break;
            case 2:
            case 3:
                check("insert", key);
                break;
            case 4:
                check("delete", key);
                break;
            case 5:
                check("read", m.about(0, 7), key, m.about(0, 1), m.about(0, 3));
                break;
            case 6:
            case 7:
            case 8:
            case 9: {
                int v = m.upTo(4) == 0 ? m.about(-1000000, 1000000) : m.about(-30, 30);
                check("write", m.about(0, 7), key, m.about(0, 1), m.about(0, 3), v);
                break;
            }
            case 10:
                check("first", m.about(0, 1));
                break;
            case 11:
            case 12:
                check("tick", m.upTo(20) == 0 ? m.about(0, 1000) : m.upTo(8));
                break;
            case 13:
                check("bite", m.upTo(2) == 0 ? m.about(1, 40) : 1 + m.upTo(4));
                break;
            case 14:
                check("fall", m.upTo(2) == 0 ? m.about(0, 40) : m.upTo(4));
                break;
            case 15:
                check("quiet", m.upTo(2) == 0 ? m.upTo(3) : m.about(0, 1000));
                break;
            case 16:
                check("asked", m.about(0, 7), m.about(0, 1), m.about(0, 3), m.upTo(2));
                check("still", m.about(0, 3), m.about(0, Math.max(1, model.tick)));
                break;
            case 17: {
                int to = m.about(0, 39);
                int from = m.upTo(10) == 0 ? m.about(0, 39) : m.upTo(Math.min(Math.max(to, 0), 39) + 1);
                check("sum", from, to);
                check("halves", from, to);
                break;
            }
            case 18:
                check("mend", key);
                break;
            default:
                for (int what = 0; what <= 8; what++) {
                    check("row", key, m.about(0, 8));
                }
                break;
        }
    }

    private void urge() {
        check("bite", 40);
        check("go");
    }

    private boolean run() {
        int weightOfLens = make.upTo(4);
        int weightOfPlan = make.upTo(3);
        int weightOfTable = 1 + make.upTo(8);
        tellLens(make.lens());
        for (int i = 0; i < 4 * CALLS && calls < CALLS && !wrong; i++) {
            int kind = make.upTo(weightOfLens + weightOfPlan + weightOfTable);
            if (kind < weightOfLens) {
                lensCalls();
            } else if (kind < weightOfLens + weightOfPlan) {
                planCalls();
            } else {
                tableCalls();
            }
            if (make.upTo(60) == 0) {
                urge();
            }
            check("count", make.about(0, 12));
        }
        return !wrong;
    }

    public static void main(String[] args) {
        int runs = args.length > 0 ? Integer.parseInt(args[0]) : RUNS;
        int bad = 0;
        for (int run = 0; run < runs; run++) {
            bad += new OracleTest(run).run() ? 0 : 1;
        }
        System.out.println(runs + " runs against the model, " + bad + " not as it answers");
        if (bad > 0) {
            System.exit(1);
        }
    }
}
