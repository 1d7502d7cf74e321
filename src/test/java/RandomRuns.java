import java.util.ArrayList;
import java.util.List;
import java.util.Random;

/** Runs of up to 512 calls against a second, plain model of the document; the seeds are fixed. */
public final class RandomRuns {
    private static final int RUNS = 2000;
    private static final int CALLS = 512;

    private static int wrong = 0;

    public static void main(String[] args) {
        for (int run = 0; run < RUNS && wrong < 10; run++) {
            new Run(run).go();
        }
        System.out.println(wrong == 0 ? "runs agree with the model" : wrong + " answers are wrong");
        if (wrong != 0) {
            System.exit(1);
        }
    }

    /** An expression: a condition, a not of one part, or an and / an or of several. */
    private static final class Node {
        final String kind;
        final int condition;
        final List<Node> parts = new ArrayList<>();

        Node(String kind, int condition) {
            this.kind = kind;
            this.condition = condition;
        }

        boolean on(int settings) {
            switch (kind) {
                case "c": return (settings >> condition & 1) != 0;
                case "not": return !parts.get(0).on(settings);
                case "and": return parts.stream().allMatch(p -> p.on(settings));
                default: return parts.stream().anyMatch(p -> p.on(settings));
            }
        }

        int bits() {
            int all = kind.equals("c") ? 1 << condition : 0;
            for (Node part : parts) {
                all |= part.bits();
            }
            return all;
        }

        String words() {
            if (kind.equals("c")) {
                return "c" + condition;
            }
            if (kind.equals("not")) {
                Node part = parts.get(0);
                boolean plain = part.kind.equals("c") || part.kind.equals("not");
                return plain ? "not " + part.words() : "not (" + part.words() + ")";
            }
            List<String> all = new ArrayList<>();
            for (Node part : parts) {
                boolean brackets = kind.equals("and") && part.kind.equals("or");
                all.add(brackets ? "(" + part.words() + ")" : part.words());
            }
            return String.join(" " + kind + " ", all);
        }

        /** The words of a good expression: parted at the or, then at the and, outside of brackets. */
        static Node of(List<String> words) {
            for (String operator : new String[] {"or", "and"}) {
                List<List<String>> pieces = parted(words, operator);
                if (pieces.size() > 1) {
                    Node node = new Node(operator, 0);
                    for (List<String> piece : pieces) {
                        node.parts.add(of(piece));
                    }
                    return node;
                }
            }
            if (words.get(0).equals("not")) {
                Node node = new Node("not", 0);
                node.parts.add(of(words.subList(1, words.size())));
                return node;
            }
            if (words.get(0).equals("(")) {
                return of(words.subList(1, words.size() - 1));
            }
            return new Node("c", Integer.parseInt(words.get(0).substring(1)));
        }

        private static List<List<String>> parted(List<String> words, String operator) {
            List<List<String>> pieces = new ArrayList<>();
            int depth = 0;
            int from = 0;
            for (int i = 0; i < words.size(); i++) {
                String word = words.get(i);
                depth += word.equals("(") ? 1 : word.equals(")") ? -1 : 0;
                if (depth == 0 && word.equals(operator)) {
                    pieces.add(words.subList(from, i));
                    from = i + 1;
                }
            }
            pieces.add(words.subList(from, words.size()));
            return pieces;
        }
    }

    private static final class ModelRow {
        final List<Integer> acts = new ArrayList<>();
        final List<String> words = new ArrayList<>();
        Node expression;
        int conditions;
        String forWord;
        int number;
        boolean mayLatch;
        int count;
        boolean latched;
        int left;

        String line() {
            StringBuilder line = new StringBuilder("bar");
            for (int act : acts) {
                line.append(" a").append(act);
            }
            line.append(" when ").append(expression.words());
            if (forWord != null) {
                line.append(" for ").append(forWord);
            }
            return line.append(mayLatch ? " latched;\n" : ";\n").toString();
        }
    }

    private static final class Model {
        StringBuilder text = new StringBuilder();
        List<ModelRow> rows = new ArrayList<>();
        int settings;
        // What a reading is at: which words may come, and what is open.
        private String state;
        private String open;
        private List<ModelRow> taken;
        private ModelRow last;

        static List<String> split(String text) {
            String spaced = text.replaceAll("([();])", " $1 ").replace('\n', ' ');
            List<String> words = new ArrayList<>();
            for (String word : spaced.split(" ")) {
                if (!word.isEmpty()) {
                    words.add(word);
                }
            }
            words.add("");
            return words;
        }

        int read() {
            List<String> words = split(text.toString());
            text.setLength(0);
            state = "row";
            open = "";
            taken = new ArrayList<>();
            for (int i = 0; i < words.size(); i++) {
                if (!goesOn(words.get(i))) {
                    return -1 - i;
                }
            }
            for (ModelRow row : taken) {
                row.expression = Node.of(row.words);
            }
            rows = taken;
            return rows.size();
        }

        private boolean goesOn(String word) {
            switch (state) {
                case "row": return rowStarts(word);
                case "act": return act(word);
                case "acts": return word.equals("when") ? go("part") : act(word);
                case "part": return part(word);
                case "behind": return behind(word);
                case "number": return number(word);
                case "numbered": return tail(word);
                default: return word.equals(";") && go("row");
            }
        }

        private boolean go(String next) {
            state = next;
            return true;
        }

        private boolean rowStarts(String word) {
            if (word.equals("bar") && taken.size() < 40) {
                last = new ModelRow();
                taken.add(last);
                return go("act");
            }
            return word.isEmpty();
        }

        private boolean act(String word) {
            if (!word.matches("a(0|[1-9][0-9]?)") || Integer.parseInt(word.substring(1)) > 31) {
                return false;
            }
            int act = Integer.parseInt(word.substring(1));
            if (last.acts.contains(act) || last.acts.size() == 8) {
                return false;
            }
            last.acts.add(act);
            return go("acts");
        }

        private boolean part(String word) {
            if (word.equals("not") || word.equals("(")) {
                open += word.charAt(0);
                last.words.add(word);
                return open.length() <= 20;
            }
            if (!word.matches("c([0-9]|1[0-5])") || last.conditions == 32) {
                return false;
            }
            last.conditions++;
            last.words.add(word);
            open = open.replaceAll("n+$", "");
            return go("behind");
        }

        private boolean behind(String word) {
            if (word.equals("and") || word.equals("or")) {
                last.words.add(word);
                return go("part");
            }
            if (word.equals(")") && open.endsWith("(")) {
                last.words.add(word);
                open = open.substring(0, open.length() - 1).replaceAll("n+$", "");
                return true;
            }
            if (word.equals("for") && open.isEmpty()) {
                return go("number");
            }
            return open.isEmpty() && tail(word);
        }

        private boolean number(String word) {
            if (!word.matches("0|[1-9][0-9]{0,3}") || Integer.parseInt(word) > 3600) {
                return false;
            }
            last.forWord = word;
            last.number = Integer.parseInt(word);
            return go("numbered");
        }

        private boolean tail(String word) {
            if (word.equals("latched")) {
                last.mayLatch = true;
                return go("latched");
            }
            return word.equals(";") && go("row");
        }

        boolean on(ModelRow row) {
            return row.expression.on(settings);
        }

        boolean holds(ModelRow row) {
            return on(row) && row.count >= row.number;
        }

        void second() {
            for (ModelRow row : rows) {
                row.count = on(row) ? Math.min(row.count + 1, 1_000_000) : 0;
                if (row.mayLatch && holds(row)) {
                    row.latched = true;
                }
                if (row.left > 0) {
                    row.left--;
                }
            }
        }

        boolean tick(int seconds) {
            if (seconds < 0 || seconds > 100_000) {
                return false;
            }
            for (int i = 0; i < seconds; i++) {
                second();
            }
            return true;
        }

        int act(int k) {
            if (k < 0 || k > 31) {
                return -1;
            }
            for (int i = 0; i < rows.size(); i++) {
                ModelRow row = rows.get(i);
                if (row.acts.contains(k) && row.left == 0 && (holds(row) || row.latched)) {
                    return i + 1;
                }
            }
            return 0;
        }

        boolean has(int row) {
            return row >= 1 && row <= rows.size();
        }

        int pass(int row, int a, int b, int seconds) {
            if (!has(row)) {
                return -1;
            }
            if (a < 1 || a > 999 || b < 1 || b > 999 || a == b) {
                return -2;
            }
            if (seconds < 1 || seconds > 3600) {
                return -3;
            }
            if (rows.get(row - 1).left > 0) {
                return -4;
            }
            rows.get(row - 1).left = seconds;
            return 0;
        }

        int listed(int k) {
            List<Integer> all = new ArrayList<>();
            for (int i = 0; i < rows.size(); i++) {
                if (rows.get(i).left > 0) {
                    all.add(i + 1);
                }
            }
            return k >= 0 && k < all.size() ? all.get(k) : -1;
        }

        boolean reset(int row) {
            if (!has(row) || !rows.get(row - 1).latched || on(rows.get(row - 1))) {
                return false;
            }
            rows.get(row - 1).latched = false;
            return true;
        }

        int test(int k) {
            List<Integer> idle = new ArrayList<>();
            for (int i = 0; i < rows.size(); i++) {
                if (!everFirst(i)) {
                    idle.add(i + 1);
                }
            }
            return k >= 0 && k < idle.size() ? idle.get(k) : -1;
        }

        private boolean everFirst(int index) {
            int bits = 0;
            for (int i = 0; i <= index; i++) {
                bits |= rows.get(i).expression.bits();
            }
            for (int s = bits; ; s = s - 1 & bits) {
                for (int act : rows.get(index).acts) {
                    if (firstOn(act, s) == index) {
                        return true;
                    }
                }
                if (s == 0) {
                    return false;
                }
            }
        }

        private int firstOn(int act, int s) {
            for (int i = 0; i < rows.size(); i++) {
                if (rows.get(i).acts.contains(act) && rows.get(i).expression.on(s)) {
                    return i;
                }
            }
            return -1;
        }

        int row(int k, int what) {
            if (!has(k) || what < 0 || what > 7) {
                return -1;
            }
            ModelRow row = rows.get(k - 1);
            int[] all = {row.acts.size(), row.number, row.mayLatch ? 1 : 0, row.count,
                row.latched ? 1 : 0, row.left, row.conditions, on(row) ? 1 : 0};
            return all[what];
        }

        int write(int i) {
            StringBuilder all = new StringBuilder();
            for (ModelRow row : rows) {
                all.append(row.line());
            }
            return i >= 0 && i < all.length() ? all.charAt(i) : -1;
        }
    }

    /** One run: an object, the model, and the same calls on both. */
    private static final class Run {
        private final int seed;
        private final Random random;
        private final InterlockTables x = new InterlockTables();
        private final Model model = new Model();
        private final int conditionsUsed;
        private final int actsUsed;
        private final StringBuilder told = new StringBuilder();
        private int calls;
        private int longTicks;

        Run(int seed) {
            this.seed = seed;
            random = new Random(seed);
            conditionsUsed = seed % 20 == 0 ? 16 : 1 + random.nextInt(7);
            actsUsed = seed % 7 == 0 ? 32 : 1 + random.nextInt(4);
        }

        void go() {
            while (calls < CALLS && wrong < 10) {
                if (random.nextInt(40) == 0) {
                    enterText();
                } else {
                    call(random.nextInt(12));
                }
            }
        }

        private void due(String call, Object got, Object want) {
            calls++;
            told.append(call).append(" = ").append(want).append('\n');
            if (!got.equals(want)) {
                wrong++;
                System.out.println("run " + seed + ": " + told + "answered " + got);
            }
        }

        private void enterText() {
            String text = someText();
            for (int i = 0; i < text.length() && calls < CALLS; i++) {
                unit(text.charAt(i));
            }
            due("read()", x.read(), model.read());
            for (int i = 0; i < 10 && random.nextInt(4) == 0; i++) {
                call(9);
            }
        }

        private void unit(int u) {
            boolean good = u >= 1 && u <= 127;
            if (good) {
                model.text.append((char) u);
            }
            due("unit(" + u + ")", x.unit(u), good);
        }

        private int some(int least, int most) {
            int chance = random.nextInt(30);
            int[] odd = {least, most, least - 1, most + 1, Integer.MIN_VALUE, Integer.MAX_VALUE, -1, 0};
            return chance < odd.length ? odd[chance] : least + random.nextInt(most - least + 1);
        }

        private int someRow() {
            return some(1, Math.max(1, model.rows.size()));
        }

        private void call(int which) {
            int k = someRow();
            switch (which) {
                case 0: case 1: setCondition(); break;
                case 2: tick(); break;
                case 3: k = random.nextBoolean() ? random.nextInt(actsUsed) : some(0, 31);
                    due("act(" + k + ")", x.act(k), model.act(k)); break;
                case 4: pass(k); break;
                case 5: due("listed(" + (k - 1) + ")", x.listed(k - 1), model.listed(k - 1)); break;
                case 6: due("reset(" + k + ")", x.reset(k), model.reset(k)); break;
                case 7: k = some(0, 2);
                    due("test(" + k + ")", x.test(k), model.test(k)); break;
                case 8: int what = some(0, 7);
                    due("row(" + k + ", " + what + ")", x.row(k, what), model.row(k, what)); break;
                case 9: case 10: k = some(0, 200);
                    due("write(" + k + ")", x.write(k), model.write(k)); break;
                default: seldom(); break;
            }
        }

        private void seldom() {
            if (random.nextInt(20) == 0) {
                x.clear();
                model.rows = new ArrayList<>();
                model.text.setLength(0);
                due("clear()", 0, 0);
            } else if (random.nextInt(10) == 0) {
                unit(random.nextBoolean() ? ' ' : some(1, 127));
            }
        }

        private void setCondition() {
            int k = random.nextInt(4) == 0 ? some(0, 15) : random.nextInt(conditionsUsed);
            boolean on = random.nextBoolean();
            boolean isNew = k >= 0 && k < 16 && (model.settings >> k & 1) != (on ? 1 : 0);
            if (isNew) {
                model.settings ^= 1 << k;
            }
            due("condition(" + k + ", " + on + ")", x.condition(k, on), isNew);
        }

        private void tick() {
            int seconds = random.nextInt(3) == 0 ? some(0, 100_000) : random.nextInt(4);
            if (seconds > 4000 && seconds <= 100_000) {
                // The model goes second by second, so long ticks are kept few.
                longTicks++;
                seconds = longTicks == 1 && seed % 10 == 0 ? seconds : seconds % 4000;
            }
            due("tick(" + seconds + ")", x.tick(seconds), model.tick(seconds));
        }

        private void pass(int k) {
            int a = random.nextInt(4) == 0 ? some(1, 999) : 1;
            int b = random.nextInt(4) == 0 ? some(1, 999) : 2;
            int seconds = random.nextInt(4) == 0 ? some(1, 3600) : 1 + random.nextInt(6);
            due("pass(" + k + ", " + a + ", " + b + ", " + seconds + ")",
                x.pass(k, a, b, seconds), model.pass(k, a, b, seconds));
        }

        private String someText() {
            List<String> words = new ArrayList<>();
            int count = random.nextInt(6);
            for (int i = 0; i < count; i++) {
                addRow(words);
            }
            if (random.nextInt(4) == 0 && !words.isEmpty()) {
                spoil(words);
            }
            StringBuilder text = new StringBuilder();
            for (String word : words) {
                boolean tight = text.length() > 0 && "();".contains(word)
                    || text.length() > 0 && "();".indexOf(text.charAt(text.length() - 1)) >= 0;
                text.append(tight && random.nextInt(3) > 0 ? "" : random.nextInt(9) == 0 ? "\n" : " ");
                text.append(word);
            }
            return text.toString();
        }

        private void addRow(List<String> words) {
            words.add("bar");
            int acts = 1 + random.nextInt(3);
            List<Integer> had = new ArrayList<>();
            for (int i = 0; i < acts; i++) {
                int act = random.nextInt(actsUsed);
                if (!had.contains(act) || random.nextInt(40) == 0) {
                    words.add("a" + act);
                    had.add(act);
                }
            }
            words.add("when");
            addExpression(words, seed % 20 == 0 ? 5 : 3);
            if (random.nextInt(3) == 0) {
                words.add("for");
                words.add("" + (random.nextInt(3) == 0 ? some(0, 3600) : random.nextInt(5)));
            }
            if (random.nextInt(3) == 0) {
                words.add("latched");
            }
            words.add(";");
        }

        private void addExpression(List<String> words, int depth) {
            int joined = depth <= 0 ? 1 : 1 + random.nextInt(3);
            for (int i = 0; i < joined; i++) {
                if (i > 0) {
                    words.add(random.nextBoolean() ? "and" : "or");
                }
                addPart(words, depth - 1);
            }
        }

        private void addPart(List<String> words, int depth) {
            int chance = random.nextInt(6);
            if (chance < 2) {
                words.add("not");
                addPart(words, depth - 1);
            } else if (chance < 4 && depth > 0) {
                words.add("(");
                addExpression(words, depth - 1);
                words.add(")");
            } else {
                words.add("c" + random.nextInt(conditionsUsed));
            }
        }

        private void spoil(List<String> words) {
            String[] any = {"bar", "when", "for", "latched", "and", "or", "not", "(", ")", ";", "a0", "a31", "a32",
                "c0", "c15", "c16", "c01", "a", "c", "0", "7", "3600", "3601", "00", "x", "\t", "nota"};
            int at = random.nextInt(words.size());
            switch (random.nextInt(3)) {
                case 0: words.remove(at); break;
                case 1: words.set(at, any[random.nextInt(any.length)]); break;
                default: words.add(at, any[random.nextInt(any.length)]); break;
            }
        }
    }
}
