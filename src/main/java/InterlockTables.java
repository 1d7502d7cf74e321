import java.util.ArrayList;
import java.util.Arrays;

/**
 * Interlocks: tables of conditions that bar acts, read from texts; holds, latches,
 * by-passes of two persons with an end, rows that never bar.
 */
public final class InterlockTables {
    public static final int NONE = -1;

    private static final int CONDITIONS = 16;
    private static final int ACTS = 32;
    private static final int MAX_TEXT = 3000;
    // Every written word was read, and has at most one blank or line feed beside it.
    private static final int MAX_WRITTEN = 2 * MAX_TEXT;
    private static final int FIRST_ROOM = 64;

    private static final int MAX_ROWS = 40;
    private static final int MAX_ROW_ACTS = 8;
    private static final int MAX_ROW_CONDITIONS = 32;
    private static final int MAX_OPEN = 20;
    private static final int MAX_NUMBER = 3600;
    private static final int MAX_COUNT = 1_000_000;
    private static final int MAX_TICK = 100_000;
    private static final int MAX_PERSON = 999;
    private static final int MAX_PASS = 3600;

    // The kinds of words.
    private static final int END = 0;
    private static final int OTHER = 1;
    private static final int OPEN = 2;
    private static final int CLOSE = 3;
    private static final int SEMICOLON = 4;
    private static final int BAR = 5;
    private static final int WHEN = 6;
    private static final int FOR = 7;
    private static final int LATCHED = 8;
    private static final int OR = 9;
    private static final int AND = 10;
    private static final int NOT = 11;
    private static final int ACT = 12;
    private static final int CONDITION = 13;
    private static final int NUMBER = 14;

    // What stands in an expression's code: a condition's number (0 .. 15), or one of these.
    private static final int CODE_NOT = 16;
    private static final int CODE_AND = 17;
    private static final int CODE_OR = 18;

    // No expression is deeper: 20 that are open, and one level for each condition.
    private static final int MAX_DEPTH = MAX_OPEN + MAX_ROW_CONDITIONS;

    // Lane l of pattern j is bit j of l, so that a long holds all settings of six conditions.
    private static final long[] PATTERNS = {
        0xAAAAAAAAAAAAAAAAL, 0xCCCCCCCCCCCCCCCCL, 0xF0F0F0F0F0F0F0F0L,
        0xFF00FF00FF00FF00L, 0xFFFF0000FFFF0000L, 0xFFFFFFFF00000000L
    };

    private final Bytes text;
    // All bits of a condition are alike: all set when it is on.
    private final long[] conditions;
    private Table table;

    public InterlockTables() {
        text = new Bytes(MAX_TEXT);
        conditions = new long[CONDITIONS];
        table = new Table(0);
    }

    public boolean unit(int u) {
        return u >= 1 && u <= 127 && text.add(u);
    }

    public int read() {
        Words words = new Words(text.length());
        words.split(text);
        text.empty();
        Table taken = new Table(words.count());
        if (!new Reader(words, taken).takeText()) {
            return -1 - words.index();
        }
        table = taken;
        return table.size();
    }

    public boolean condition(int k, boolean on) {
        if (k < 0 || k >= CONDITIONS) {
            return false;
        }
        long setting = on ? -1L : 0L;
        boolean isNew = conditions[k] != setting;
        conditions[k] = setting;
        return isNew;
    }

    public boolean tick(int seconds) {
        if (seconds < 0 || seconds > MAX_TICK) {
            return false;
        }
        table.letGoBy(seconds, conditions);
        return true;
    }

    public int act(int k) {
        if (k < 0 || k >= ACTS) {
            return NONE;
        }
        return table.firstToBar(k, conditions);
    }

    public int pass(int row, int personA, int personB, int seconds) {
        Row found = table.find(row);
        if (found == null) {
            return -1;
        }
        if (!isPerson(personA) || !isPerson(personB) || personA == personB) {
            return -2;
        }
        if (seconds < 1 || seconds > MAX_PASS) {
            return -3;
        }
        if (found.passLeft > 0) {
            return -4;
        }
        found.passLeft = seconds;
        return 0;
    }

    public int listed(int k) {
        return table.passedRow(k);
    }

    public boolean reset(int row) {
        Row found = table.find(row);
        if (found == null || !found.latched || table.isOn(found, conditions)) {
            return false;
        }
        found.latched = false;
        return true;
    }

    public int test(int k) {
        return table.idleRow(k);
    }

    public int row(int k, int what) {
        Row found = table.find(k);
        if (found == null) {
            return NONE;
        }
        switch (what) {
            case 0: return found.actCount;
            case 1: return found.number;
            case 2: return oneIf(found.mayLatch);
            case 3: return found.count;
            case 4: return oneIf(found.latched);
            case 5: return found.passLeft;
            case 6: return found.conditionCount;
            case 7: return oneIf(table.isOn(found, conditions));
            default: return NONE;
        }
    }

    public int write(int i) {
        return table.written().at(i);
    }

    public void clear() {
        table = new Table(0);
        text.empty();
    }

    private static boolean isPerson(int person) {
        return person >= 1 && person <= MAX_PERSON;
    }

    private static int oneIf(boolean is) {
        return is ? 1 : 0;
    }

    /** Bytes one behind the other, up to a limit; the room grows as they come. */
    private static final class Bytes {
        private final int limit;
        private byte[] room;
        private int length;

        Bytes(int limit) {
            this.limit = limit;
            room = new byte[FIRST_ROOM];
            length = 0;
        }

        boolean add(int b) {
            if (length >= limit) {
                return false;
            }
            if (length >= room.length) {
                room = Arrays.copyOf(room, 2 * room.length);
            }
            room[length] = (byte) b;
            length++;
            return true;
        }

        int at(int i) {
            return i < 0 || i >= length ? NONE : room[i];
        }

        int length() {
            return length;
        }

        void empty() {
            length = 0;
        }
    }

    /** The words of a text; the reader goes through them, up to the end behind the last one. */
    private static final class Words {
        private final byte[] kinds;
        private final short[] values;
        private int count;
        private int index;
        // The number in the word that is being split off.
        private int value;

        Words(int textLength) {
            int most = Math.max(0, textLength);
            kinds = new byte[most];
            values = new short[most];
        }

        int count() {
            return count;
        }

        int index() {
            return index;
        }

        /** The kind of the word that the reader is at. */
        int kind() {
            return index < count ? kinds[index] : END;
        }

        /** The number of the act, condition or number that the reader is at. */
        int value() {
            return index < count ? values[index] : NONE;
        }

        void advance() {
            if (index < count) {
                index++;
            }
        }

        void split(Bytes text) {
            int start = 0;
            while (start < text.length()) {
                int end = start + 1;
                if (isInner(text.at(start))) {
                    while (end < text.length() && isInner(text.at(end))) {
                        end++;
                    }
                }
                if (!isBlank(text.at(start))) {
                    keep(kindOf(text, start, end));
                }
                start = end;
            }
        }

        private void keep(int kind) {
            if (count < kinds.length && count < values.length) {
                kinds[count] = (byte) kind;
                values[count] = (short) value;
                count++;
            }
        }

        private static boolean isBlank(int b) {
            return b == ' ' || b == '\n';
        }

        private static boolean isInner(int b) {
            return !isBlank(b) && b != '(' && b != ')' && b != ';';
        }

        private int kindOf(Bytes text, int start, int end) {
            value = NONE;
            switch (text.at(start)) {
                case '(': return OPEN;
                case ')': return CLOSE;
                case ';': return SEMICOLON;
                default: break;
            }
            int named = namedKind(text, start, end);
            return named == OTHER ? numberedKind(text, start, end) : named;
        }

        private static int namedKind(Bytes text, int start, int end) {
            if (isWord(text, start, end, "bar")) {
                return BAR;
            }
            if (isWord(text, start, end, "when")) {
                return WHEN;
            }
            if (isWord(text, start, end, "for")) {
                return FOR;
            }
            if (isWord(text, start, end, "latched")) {
                return LATCHED;
            }
            if (isWord(text, start, end, "or")) {
                return OR;
            }
            if (isWord(text, start, end, "and")) {
                return AND;
            }
            return isWord(text, start, end, "not") ? NOT : OTHER;
        }

        private static boolean isWord(Bytes text, int start, int end, String word) {
            if (end - start != word.length()) {
                return false;
            }
            for (int i = 0; i < word.length(); i++) {
                if (text.at(start + i) != word.charAt(i)) {
                    return false;
                }
            }
            return true;
        }

        private int numberedKind(Bytes text, int start, int end) {
            int kind = NUMBER;
            if (text.at(start) == 'a') {
                kind = ACT;
                value = numberIn(text, start + 1, end, ACTS - 1);
            } else if (text.at(start) == 'c') {
                kind = CONDITION;
                value = numberIn(text, start + 1, end, CONDITIONS - 1);
            } else {
                value = numberIn(text, start, end, MAX_NUMBER);
            }
            return value == NONE ? OTHER : kind;
        }

        /** NONE when the bytes are no number, or it is above max. */
        private static int numberIn(Bytes text, int start, int end, int max) {
            if (start >= end || text.at(start) == '0' && end - start > 1) {
                return NONE;
            }
            int number = 0;
            for (int i = start; i < end; i++) {
                int digit = text.at(i) - '0';
                if (digit < 0 || digit > 9) {
                    return NONE;
                }
                number = 10 * number + digit;
                // Looked at with every digit, so that no row of digits wraps around.
                if (number > max) {
                    return NONE;
                }
            }
            return number;
        }
    }

    /** A row of the table, and how it stands. */
    private static final class Row {
        private final int[] acts = new int[MAX_ROW_ACTS];
        private int actCount;
        private int actBits;
        private int conditionCount;
        private int codeFrom;
        private int codeTo;
        private boolean hasFor;
        private int number;
        private boolean mayLatch;
        private int count;
        private boolean latched;
        private int passLeft;
        private boolean everFirst;

        boolean hasAct(int act) {
            return (actBits >>> act & 1) != 0;
        }

        boolean addAct(int act) {
            if (actCount >= acts.length || hasAct(act)) {
                return false;
            }
            acts[actCount] = act;
            actCount++;
            actBits |= 1 << act;
            return true;
        }

        int actAt(int i) {
            return i < 0 || i >= actCount || i >= acts.length ? NONE : acts[i];
        }

        boolean bars(boolean on) {
            return passLeft == 0 && (latched || holds(on));
        }

        private boolean holds(boolean on) {
            return on && count >= number;
        }

        /** The seconds are at least 1; the row is on, or off, in all of them. */
        void letGoBy(int seconds, boolean on) {
            passLeft = Math.max(0, passLeft - seconds);
            count = on ? Math.min(MAX_COUNT, count + seconds) : 0;
            // The count only grows while the row is on, so the last second tells for all.
            if (mayLatch && holds(on)) {
                latched = true;
            }
        }
    }

    /** The expressions of all rows of a table: each operator stands behind what it works on. */
    private static final class Expressions {
        private final byte[] code;
        private int size;
        private final long[] stack = new long[MAX_ROW_CONDITIONS];

        Expressions(int room) {
            code = new byte[Math.max(0, room)];
        }

        int size() {
            return size;
        }

        int at(int i) {
            return i < 0 || i >= size ? NONE : code[i];
        }

        void add(int what) {
            if (size < code.length) {
                code[size] = (byte) what;
                size++;
            }
        }

        /** Where the left one ends of the two that the operator at an index joins. */
        int leftOf(int operator) {
            int missing = 1;
            int i = operator - 1;
            while (i >= 0 && missing > 0) {
                if (isCondition(at(i))) {
                    missing--;
                } else if (at(i) != CODE_NOT) {
                    missing++;
                }
                i--;
            }
            return i;
        }

        /** A bit is set when the expression is on with that bit of the settings. */
        long valueOf(int from, int to, long[] settings) {
            int top = 0;
            for (int i = from; i < to; i++) {
                int what = at(i);
                if (isCondition(what)) {
                    if (top < stack.length && what < settings.length) {
                        stack[top] = settings[what];
                        top++;
                    }
                } else if (what == CODE_NOT && top >= 1) {
                    stack[top - 1] = ~stack[top - 1];
                } else if (top >= 2) {
                    top--;
                    stack[top - 1] = join(what, stack[top - 1], stack[top]);
                }
            }
            return top > 0 ? stack[0] : 0;
        }

        private static long join(int operator, long left, long right) {
            return operator == CODE_AND ? left & right : left | right;
        }

        static boolean isCondition(int what) {
            return what >= 0 && what < CONDITIONS;
        }
    }

    /** The rows that a text gave. */
    private static final class Table {
        private final ArrayList<Row> rows = new ArrayList<>();
        private final Expressions expressions;
        // Made when it is first asked for: most tables are never written.
        private Bytes written;
        private boolean surveyed;

        Table(int room) {
            expressions = new Expressions(room);
        }

        int size() {
            return rows.size();
        }

        /** Row number 1 and so on; null when there is none. */
        Row find(int number) {
            return number < 1 || number > rows.size() ? null : rows.get(number - 1);
        }

        boolean isOn(Row row, long[] conditions) {
            return valueOf(row, conditions) != 0;
        }

        long valueOf(Row row, long[] settings) {
            return expressions.valueOf(row.codeFrom, row.codeTo, settings);
        }

        void letGoBy(int seconds, long[] conditions) {
            if (seconds < 1) {
                return;
            }
            for (int i = 0; i < rows.size(); i++) {
                Row row = rows.get(i);
                row.letGoBy(seconds, isOn(row, conditions));
            }
        }

        int firstToBar(int act, long[] conditions) {
            for (int i = 0; i < rows.size(); i++) {
                Row row = rows.get(i);
                if (row.hasAct(act) && row.bars(isOn(row, conditions))) {
                    return i + 1;
                }
            }
            return 0;
        }

        int passedRow(int k) {
            return pick(k, true);
        }

        int idleRow(int k) {
            if (!surveyed) {
                new Survey(this).markRows();
                surveyed = true;
            }
            return pick(k, false);
        }

        /** Row number k of those that are by-passed, or else of those that are never first. */
        private int pick(int k, boolean passed) {
            int before = 0;
            for (int i = 0; i < rows.size(); i++) {
                Row row = rows.get(i);
                if (passed ? row.passLeft > 0 : !row.everFirst) {
                    if (before == k) {
                        return i + 1;
                    }
                    before++;
                }
            }
            return NONE;
        }

        Bytes written() {
            if (written == null) {
                Writer writer = new Writer(expressions);
                for (int i = 0; i < rows.size(); i++) {
                    writer.putRow(rows.get(i));
                }
                written = writer.out;
            }
            return written;
        }
    }

    /** Reads words into a new table; behind a false answer, the words are at the wrong one. */
    private static final class Reader {
        private final Words words;
        private final Table table;
        private final Expressions expressions;

        Reader(Words words, Table table) {
            this.words = words;
            this.table = table;
            expressions = table.expressions;
        }

        boolean takeText() {
            for (int i = 0; i < MAX_ROWS && words.kind() == BAR; i++) {
                if (!takeRow()) {
                    return false;
                }
            }
            return words.kind() == END;
        }

        private boolean takeRow() {
            Row row = new Row();
            if (!take(BAR) || !takeActs(row) || !take(WHEN)) {
                return false;
            }
            row.codeFrom = expressions.size();
            if (!takeOr(row, 0)) {
                return false;
            }
            row.codeTo = expressions.size();
            if (!takeFor(row)) {
                return false;
            }
            row.mayLatch = take(LATCHED);
            if (!take(SEMICOLON)) {
                return false;
            }
            table.rows.add(row);
            return true;
        }

        private boolean take(int kind) {
            if (words.kind() != kind) {
                return false;
            }
            words.advance();
            return true;
        }

        private boolean takeActs(Row row) {
            for (int i = 0; i < MAX_ROW_ACTS && words.kind() == ACT; i++) {
                if (!row.addAct(words.value())) {
                    return false;
                }
                words.advance();
            }
            return row.actCount > 0;
        }

        private boolean takeFor(Row row) {
            if (!take(FOR)) {
                return true;
            }
            row.hasFor = true;
            row.number = words.value();
            return take(NUMBER);
        }

        private boolean takeOr(Row row, int open) {
            if (!takeAnd(row, open)) {
                return false;
            }
            for (int i = 0; i < MAX_ROW_CONDITIONS && words.kind() == OR; i++) {
                words.advance();
                if (!takeAnd(row, open)) {
                    return false;
                }
                expressions.add(CODE_OR);
            }
            return true;
        }

        private boolean takeAnd(Row row, int open) {
            if (!takePart(row, open)) {
                return false;
            }
            for (int i = 0; i < MAX_ROW_CONDITIONS && words.kind() == AND; i++) {
                words.advance();
                if (!takePart(row, open)) {
                    return false;
                }
                expressions.add(CODE_AND);
            }
            return true;
        }

        private boolean takePart(Row row, int open) {
            int nots = 0;
            while (open + nots < MAX_OPEN && words.kind() == NOT) {
                words.advance();
                nots++;
            }
            boolean good = words.kind() == OPEN
                ? takeBrackets(row, open + nots)
                : takeCondition(row);
            if (!good) {
                return false;
            }
            for (int i = 0; i < nots; i++) {
                expressions.add(CODE_NOT);
            }
            return true;
        }

        private boolean takeBrackets(Row row, int open) {
            if (open >= MAX_OPEN) {
                return false;
            }
            words.advance();
            if (!takeOr(row, open + 1) || words.kind() != CLOSE) {
                return false;
            }
            words.advance();
            return true;
        }

        private boolean takeCondition(Row row) {
            if (words.kind() != CONDITION || row.conditionCount >= MAX_ROW_CONDITIONS) {
                return false;
            }
            expressions.add(words.value());
            row.conditionCount++;
            words.advance();
            return true;
        }
    }

    /** Looks for the rows that are ever the first to bar, in all settings of the conditions. */
    private static final class Survey {
        private final Table table;
        private final int[] used = new int[CONDITIONS];
        private int usedCount;
        private final long[] settings = new long[CONDITIONS];
        // By act: the settings with which a row before this one is on.
        private final long[] covered = new long[ACTS];

        Survey(Table table) {
            this.table = table;
        }

        void markRows() {
            findUsed();
            int blocks = 1 << Math.max(0, usedCount - PATTERNS.length);
            int missing = table.size();
            for (int block = 0; block < blocks && missing > 0; block++) {
                set(block);
                missing -= markBlock();
            }
        }

        /** Only conditions that stand somewhere make a difference. */
        private void findUsed() {
            int bits = 0;
            Expressions expressions = table.expressions;
            for (int i = 0; i < expressions.size(); i++) {
                int what = expressions.at(i);
                if (Expressions.isCondition(what)) {
                    bits |= 1 << what;
                }
            }
            for (int k = 0; k < CONDITIONS; k++) {
                if ((bits >>> k & 1) != 0 && usedCount < used.length) {
                    used[usedCount] = k;
                    usedCount++;
                }
            }
        }

        private void set(int block) {
            for (int j = 0; j < usedCount; j++) {
                long lanes = j < PATTERNS.length
                    ? PATTERNS[j]
                    : -(long) (block >>> (j - PATTERNS.length) & 1);
                int k = used[j];
                if (k >= 0 && k < settings.length) {
                    settings[k] = lanes;
                }
            }
        }

        /** How many rows turned out now to be first to bar. */
        private int markBlock() {
            Arrays.fill(covered, 0L);
            int marked = 0;
            for (int i = 0; i < table.size(); i++) {
                Row row = table.rows.get(i);
                boolean first = cover(row, table.valueOf(row, settings));
                if (first && !row.everFirst) {
                    row.everFirst = true;
                    marked++;
                }
            }
            return marked;
        }

        private boolean cover(Row row, long on) {
            boolean first = false;
            for (int i = 0; i < row.actCount; i++) {
                int act = row.actAt(i);
                if (act >= 0 && act < covered.length) {
                    first |= (on & ~covered[act]) != 0;
                    covered[act] |= on;
                }
            }
            return first;
        }
    }

    /** Writes rows as a text. */
    private static final class Writer {
        private final Expressions expressions;
        private final Bytes out = new Bytes(MAX_WRITTEN);
        private boolean blankDue;

        Writer(Expressions expressions) {
            this.expressions = expressions;
        }

        void putRow(Row row) {
            putWord("bar");
            for (int i = 0; i < row.actCount; i++) {
                putWord("a");
                putDigits(row.actAt(i));
            }
            putWord("when");
            putExpression(row.codeTo - 1, false, 0);
            if (row.hasFor) {
                putWord("for");
                putWord("");
                putDigits(row.number);
            }
            if (row.mayLatch) {
                putWord("latched");
            }
            out.add(';');
            out.add('\n');
            blankDue = false;
        }

        /** The expression that ends at an index. */
        private void putExpression(int last, boolean bracketed, int depth) {
            if (depth > MAX_DEPTH) {
                return;
            }
            if (bracketed) {
                putWord("(");
                blankDue = false;
            }
            int what = expressions.at(last);
            if (what == CODE_NOT) {
                putWord("not");
                putExpression(last - 1, isJoin(last - 1), depth + 1);
            } else if (isJoin(last)) {
                boolean and = what == CODE_AND;
                int left = expressions.leftOf(last);
                putExpression(left, and && isOr(left), depth + 1);
                putWord(and ? "and" : "or");
                putExpression(last - 1, and && isOr(last - 1), depth + 1);
            } else {
                putWord("c");
                putDigits(what);
            }
            if (bracketed) {
                out.add(')');
            }
        }

        private boolean isJoin(int last) {
            return expressions.at(last) == CODE_AND || isOr(last);
        }

        private boolean isOr(int last) {
            return expressions.at(last) == CODE_OR;
        }

        private void putWord(String word) {
            if (blankDue) {
                out.add(' ');
            }
            for (int i = 0; i < word.length(); i++) {
                out.add(word.charAt(i));
            }
            blankDue = true;
        }

        /** A number of up to four digits, without a blank before it. */
        private void putDigits(int number) {
            for (int unit = 1000; unit >= 1; unit /= 10) {
                if (number >= unit || unit == 1) {
                    out.add('0' + number / unit % 10);
                }
            }
        }
    }
}
