/** The document's promises one by one: ordinary inputs, the edges it names, and wrong inputs. */
public final class PromiseTests {
    private static final String ROW = "bar a0 when c0;";

    private static int wrong = 0;
    private static String promise = "";

    public static void main(String[] args) {
        newObject();
        unit();
        readRows();
        readWrongWords();
        readWrongNumbers();
        readLimits();
        readState();
        condition();
        tickCounts();
        tickLatches();
        tickPasses();
        tickRefuses();
        act();
        pass();
        listed();
        reset();
        test();
        testAllConditions();
        row();
        write();
        writeBrackets();
        clear();
        System.out.println(wrong == 0 ? "promises hold" : wrong + " answers are wrong");
        if (wrong != 0) {
            System.exit(1);
        }
    }

    private static void due(String call, Object got, Object want) {
        if (!got.equals(want)) {
            wrong++;
            System.out.println(promise + ": " + call + " answered " + got + ", due is " + want);
        }
    }

    private static void feed(InterlockTables x, String text) {
        for (int i = 0; i < text.length(); i++) {
            due("unit " + (int) text.charAt(i), x.unit(text.charAt(i)), true);
        }
    }

    private static int read(InterlockTables x, String text) {
        feed(x, text);
        return x.read();
    }

    private static InterlockTables withRows(String text) {
        InterlockTables x = new InterlockTables();
        due("read of a good text " + text, read(x, text) >= 0, true);
        return x;
    }

    private static InterlockTables withOn(String text, int... on) {
        InterlockTables x = withRows(text);
        for (int k : on) {
            x.condition(k, true);
        }
        return x;
    }

    private static void dueRead(String text, int want) {
        due("read of " + text.replace('\n', '|'), read(new InterlockTables(), text), want);
    }

    /** The number of the word that is wrong, from 0. */
    private static void dueWrong(String text, int word) {
        dueRead(text, -1 - word);
    }

    private static String written(InterlockTables x) {
        StringBuilder all = new StringBuilder();
        for (int b = x.write(0); b != InterlockTables.NONE; b = x.write(all.length())) {
            all.append((char) b);
        }
        return all.toString();
    }

    private static void newObject() {
        promise = "1 new object";
        InterlockTables x = new InterlockTables();
        due("NONE", InterlockTables.NONE, -1);
        due("row(1, 0)", x.row(1, 0), -1);
        due("write(0)", x.write(0), -1);
        due("listed(0)", x.listed(0), -1);
        due("test(0)", x.test(0), -1);
        for (int k = 0; k < 32; k++) {
            due("act", x.act(k), 0);
        }
        for (int k = 0; k < 16; k++) {
            due("condition off", x.condition(k, false), false);
        }
        due("read()", x.read(), 0);
        InterlockTables other = withOn(ROW, 0);
        due("act of one object", other.act(0), 1);
        due("act of another object", x.act(0), 0);
    }

    private static void unit() {
        promise = "2 unit";
        InterlockTables x = new InterlockTables();
        int[] refused = {0, -1, 128, 255, 256, 256 + 'b', Integer.MAX_VALUE, Integer.MIN_VALUE};
        for (int u : refused) {
            due("unit(" + u + ")", x.unit(u), false);
        }
        due("refused bytes leave no trace", read(x, ROW), 1);
        for (int u = 1; u <= 127; u++) {
            due("unit(" + u + ")", x.unit(u), true);
        }
        due("read of all bytes", x.read(), -1);
    }

    private static void readRows() {
        promise = "3 read";
        dueRead("", 0);
        dueRead(" \n \n\n", 0);
        dueRead(ROW, 1);
        dueRead("\nbar\na0\nwhen\nc0\n;\n", 1);
        dueRead(ROW + ROW + " " + ROW, 3);
        dueRead("bar a0 when(c0)and(c1)or(not(c2));", 1);
        dueRead("bar a31 a0 a10 when c15 and c10 or c9 for 3600 latched;", 1);
        dueRead("bar a0 when c0 for 0;", 1);
        dueRead("bar a0 when c0 latched ;", 1);
        dueRead("bar a0 a1 a2 a3 a4 a5 a6 a7 when c0;", 1);
        dueRead("bar a0 when c0;bar a0 when c0;", 2);
    }

    private static void readWrongWords() {
        promise = "3 read, wrong words";
        dueWrong("bar", 1);
        dueWrong("when", 0);
        dueWrong(";", 0);
        dueWrong("a0", 0);
        dueWrong("Bar a0 when c0;", 0);
        dueWrong("bara0 when c0;", 0);
        dueWrong("bar;", 1);
        dueWrong("bar when c0;", 1);
        dueWrong("bar c0 when c0;", 1);
        dueWrong("bar a0", 2);
        dueWrong("bar a0 c0;", 2);
        dueWrong("bar a0 a1 a0 when c0;", 3);
        dueWrong("bar a0 when", 3);
        dueWrong("bar a0 when;", 3);
        dueWrong("bar a0 when a0;", 3);
        dueWrong("bar a0 when and c0;", 3);
        dueWrong("bar a0 when ();", 4);
        dueWrong("bar a0 when )c0;", 3);
        dueWrong("bar a0 when c0", 4);
        dueWrong("bar a0 when c0 c1;", 4);
        dueWrong("bar a0 when c0);", 4);
        dueWrong("bar a0 when c0 not c1;", 4);
        dueWrong("bar a0 when c0 (c1);", 4);
        dueWrong("bar a0 when c0 and;", 5);
        dueWrong("bar a0 when c0 or;", 5);
        dueWrong("bar a0 when c0 or for 2;", 5);
        dueWrong("bar a0 when (c0 or);", 6);
        dueWrong("bar a0 when (c0 and) or c1;", 6);
        dueWrong("bar a0 when c0 or or c1;", 5);
        dueWrong("bar a0 when not;", 4);
        dueWrong("bar a0 when (c0", 5);
        dueWrong("bar a0 when (c0 for 2);", 5);
        dueWrong("bar a0 when (c0 latched);", 5);
        dueWrong("bar a0 when (c0));", 6);
        dueWrong("bar a0 when c0\tand c1;", 3);
        dueWrong("bar a0 when c0\r;", 3);
        dueWrong("bar a0 when c0 latched latched;", 5);
        dueWrong("bar a0 when c0 latched for 2;", 5);
        dueWrong("bar a0 when c0 for 2 for 2;", 6);
        dueWrong("bar a0 when c0 for 2 and c1;", 6);
        dueWrong("bar a0 when c0 for 2", 6);
        dueWrong("bar a0 when c0;;", 5);
        dueWrong(ROW + "c0", 5);
        // A row that breaks off is no row, though another one begins or the text ends there.
        String row = " a0 a1 when c0 and not (c1 or c2) for 2 latched";
        String[] words = row.trim().replace("(", "( ").replace(")", " )").split(" ");
        String begun = "bar";
        for (int i = 0; i <= words.length; i++) {
            dueWrong(begun, i + 1);
            dueWrong(begun + " " + ROW, i + 1);
            begun += i < words.length ? " " + words[i] : "";
        }
        dueWrong(ROW + "bar a0 a0 when c0;", 7);
    }

    private static void readWrongNumbers() {
        promise = "3 read, wrong numbers";
        String[] noAct = {"a", "a32", "a00", "a01", "a100", "a-1", "a1x", "ax", "A1", "1", "a4294967296", "a+1"};
        for (String act : noAct) {
            dueWrong("bar " + act + " when c0;", 1);
            dueWrong("bar a7 " + act + " when c0;", 2);
        }
        String[] noCondition = {"c", "c16", "c00", "c07", "c160", "c-1", "c1x", "C1", "0", "c18446744073709551616"};
        for (String condition : noCondition) {
            dueWrong("bar a0 when " + condition + ";", 3);
            dueWrong("bar a0 when c1 or not " + condition + ";", 6);
        }
        String[] noNumber = {"3601", "00", "01", "-1", "+1", "1.5", "x", "c1", "a1", "4294967296", "99999999999999999999", "/", ":"};
        for (String number : noNumber) {
            dueWrong("bar a0 when c0 for " + number + ";", 5);
        }
        dueWrong("bar a0 when c0 for;", 5);
        dueWrong("bar a0 when c0 for latched;", 5);
        dueWrong("bar a0 when c0 for2;", 4);
    }

    private static void readLimits() {
        promise = "3 read, limits";
        dueWrong("bar a0 a1 a2 a3 a4 a5 a6 a7 a8 when c0;", 9);
        dueWrong("bar a0 a1 a2 a3 a4 a5 a6 a7 a0 when c0;", 9);
        dueRead("bar a0 when c0" + " or c1".repeat(31) + ";", 1);
        dueWrong("bar a0 when c0" + " or c1".repeat(32) + ";", 3 + 64);
        dueRead("bar a0 when c0" + " and c0".repeat(31) + ";", 1);
        dueWrong("bar a0 when c0" + " and c0".repeat(31) + " and (not c0);", 3 + 66);
        dueRead("bar a0 when c0" + " or c0".repeat(31) + ";bar a0 when c0" + " or c0".repeat(31) + ";", 2);
        dueRead("bar a0 when " + "not ".repeat(20) + "c0;", 1);
        dueWrong("bar a0 when " + "not ".repeat(21) + "c0;", 3 + 20);
        dueRead("bar a0 when " + "(".repeat(20) + "c0" + ")".repeat(20) + ";", 1);
        dueWrong("bar a0 when " + "(".repeat(21) + "c0" + ")".repeat(21) + ";", 3 + 20);
        dueRead("bar a0 when " + "not(".repeat(10) + "c0" + ")".repeat(10) + ";", 1);
        dueWrong("bar a0 when " + "not(".repeat(10) + "not c0" + ")".repeat(10) + ";", 3 + 20);
        dueWrong("bar a0 when " + "not ".repeat(20) + "(c0);", 3 + 20);
        // A not is open up to the end of its part alone.
        dueRead("bar a0 when " + "not ".repeat(20) + "c0 and " + "not ".repeat(20) + "c1;", 1);
        dueRead("bar a0 when (" + "not ".repeat(19) + "c0 or " + "not ".repeat(19) + "c1);", 1);
        dueWrong("bar a0 when (" + "not ".repeat(19) + "c0 or " + "not ".repeat(20) + "c1);", 4 + 19 + 2 + 19);
        dueRead("bar a0 when not(c0) and " + "(".repeat(20) + "c0" + ")".repeat(20) + ";", 1);
        dueRead(ROW.repeat(34), 34);
    }

    private static void readState() {
        promise = "3 read, state";
        InterlockTables x = withOn("bar a0 when c0 latched; bar a1 when c0 for 3;", 0);
        x.tick(2);
        x.pass(2, 1, 2, 10);
        due("wrong text", read(x, "bar a0 when c0;x"), -6);
        due("count stays", x.row(1, 3), 2);
        due("latch stays", x.row(1, 4), 1);
        due("by-pass stays", x.row(2, 5), 10);
        due("the wrong text is gone", read(x, "bar a0 when c0 latched; bar a1 when c0 for 3;"), 2);
        due("count anew", x.row(1, 3), 0);
        due("latch anew", x.row(1, 4), 0);
        due("by-pass anew", x.row(2, 5), 0);
        due("conditions stay", x.row(1, 7), 1);
        due("the text is empty", x.read(), 0);
        due("no rows", x.row(1, 0), -1);
        due("conditions stay", x.condition(0, true), false);
    }

    private static void condition() {
        promise = "4 condition";
        InterlockTables x = withRows("bar a0 when c0; bar a1 when c15; bar a2 when c7 and not c0;");
        for (int k = 0; k < 16; k++) {
            due("off again", x.condition(k, false), false);
            due("on", x.condition(k, true), true);
            due("on again", x.condition(k, true), false);
            due("off", x.condition(k, false), true);
        }
        int[] none = {-1, 16, 32, Integer.MAX_VALUE, Integer.MIN_VALUE};
        for (int k : none) {
            due("condition(" + k + ")", x.condition(k, true), false);
            due("condition(" + k + ")", x.condition(k, false), false);
        }
        due("row 1 off", x.row(1, 7), 0);
        x.condition(0, true);
        x.condition(7, true);
        due("row 1 on", x.row(1, 7), 1);
        due("row 2 off", x.row(2, 7), 0);
        due("row 3 off", x.row(3, 7), 0);
        x.condition(0, false);
        due("row 3 on", x.row(3, 7), 1);
    }

    private static void tickCounts() {
        promise = "5 tick, counts";
        InterlockTables x = withOn("bar a0 when c0 for 5; bar a1 when not c0;", 0);
        due("count at first", x.row(1, 3), 0);
        due("tick(0)", x.tick(0), true);
        due("count behind no second", x.row(1, 3), 0);
        due("tick(4)", x.tick(4), true);
        due("count", x.row(1, 3), 4);
        due("count of a row that is off", x.row(2, 3), 0);
        due("4 of 5 seconds", x.act(0), 0);
        x.tick(1);
        due("5 of 5 seconds", x.act(0), 1);
        x.condition(0, false);
        due("off: does not hold", x.act(0), 0);
        due("off: the count stays for now", x.row(1, 3), 5);
        x.tick(0);
        due("off: no second has gone by", x.row(1, 3), 5);
        x.condition(0, true);
        due("on again within the second", x.act(0), 1);
        x.condition(0, false);
        x.tick(1);
        due("off for a second", x.row(1, 3), 0);
        due("the other one counts", x.row(2, 3), 1);
        x.condition(0, true);
        for (int i = 0; i < 9; i++) {
            x.tick(100_000);
        }
        x.tick(99_999);
        due("count below the most", x.row(1, 3), 999_999);
        x.tick(1);
        due("the most", x.row(1, 3), 1_000_000);
        x.tick(1);
        due("no more", x.row(1, 3), 1_000_000);
        x.tick(100_000);
        due("no more", x.row(1, 3), 1_000_000);
    }

    private static void tickLatches() {
        promise = "5 tick, latches";
        InterlockTables x = withOn("bar a0 when c0 latched; bar a1 when c0 for 2 latched; bar a2 when c0;", 0);
        due("holds, no second has gone by", x.row(1, 4), 0);
        due("holds", x.act(0), 1);
        x.tick(0);
        due("still none", x.row(1, 4), 0);
        x.tick(1);
        due("latched", x.row(1, 4), 1);
        due("one of two seconds", x.row(2, 4), 0);
        x.tick(1);
        due("two of two seconds", x.row(2, 4), 1);
        due("without latched", x.row(3, 4), 0);
        x.condition(0, false);
        x.tick(10);
        due("latched: bars", x.act(1), 2);
        due("not latched: bars not", x.act(2), 0);
        due("count", x.row(2, 3), 0);
        due("latched while it is off", x.row(2, 4), 1);

        InterlockTables y = withOn("bar a1 when c0 for 3 latched;", 0);
        y.tick(3);
        due("latched at the end of the third", y.row(1, 4), 1);
        InterlockTables z = withOn("bar a1 when c0 for 3 latched;", 0);
        z.tick(3);
        z.condition(0, false);
        due("reset", z.reset(1), true);
        z.tick(1);
        due("a second that is off latches nothing", z.row(1, 4), 0);
        InterlockTables w = withOn("bar a1 when c0 latched;", 0);
        w.pass(1, 1, 2, 5);
        w.tick(1);
        due("a by-passed row latches too", w.row(1, 4), 1);
        due("a by-passed row counts too", w.row(1, 3), 1);
    }

    private static void tickPasses() {
        promise = "5 tick, by-passes";
        InterlockTables x = withOn("bar a0 when c0; bar a0 when c0;", 0);
        x.pass(1, 1, 2, 3600);
        x.pass(2, 1, 2, 2);
        x.tick(1);
        due("left", x.row(1, 5), 3599);
        due("left", x.row(2, 5), 1);
        due("both are by-passed", x.act(0), 0);
        x.tick(1);
        due("none left", x.row(2, 5), 0);
        due("bars again", x.act(0), 2);
        x.tick(100_000);
        due("none left", x.row(1, 5), 0);
        due("bars again", x.act(0), 1);
    }

    private static void tickRefuses() {
        promise = "5 tick, refused";
        InterlockTables x = withOn(ROW, 0);
        x.pass(1, 1, 2, 100);
        int[] refused = {-1, 100_001, Integer.MAX_VALUE, Integer.MIN_VALUE};
        for (int seconds : refused) {
            due("tick(" + seconds + ")", x.tick(seconds), false);
        }
        due("count", x.row(1, 3), 0);
        due("by-pass", x.row(1, 5), 100);
        due("tick(100000)", x.tick(100_000), true);
        due("count", x.row(1, 3), 100_000);
    }

    private static void act() {
        promise = "6 act";
        InterlockTables x = withRows("bar a0 a31 when c0; bar a31 a5 when c1 for 1; bar a5 when c1 or c0;");
        int[] none = {-1, 32, Integer.MAX_VALUE, Integer.MIN_VALUE};
        for (int k : none) {
            due("act(" + k + ")", x.act(k), -1);
        }
        due("nothing is on", x.act(31), 0);
        x.condition(1, true);
        due("second row does not hold yet", x.act(5), 3);
        due("second row does not hold yet", x.act(31), 0);
        x.tick(1);
        due("second row", x.act(5), 2);
        due("second row", x.act(31), 2);
        x.condition(0, true);
        due("first row", x.act(31), 1);
        due("first row", x.act(0), 1);
        due("another act", x.act(1), 0);
        x.pass(1, 1, 2, 9);
        due("by-passed", x.act(31), 2);
        due("by-passed", x.act(0), 0);
    }

    private static void pass() {
        promise = "7 pass";
        InterlockTables x = withOn("bar a0 when c0; bar a1 when c0;", 0);
        due("no row", x.pass(0, 1, 2, 3), -1);
        due("no row", x.pass(3, 1, 2, 3), -1);
        due("no row", x.pass(-1, 0, 0, 0), -1);
        due("no row", x.pass(Integer.MAX_VALUE, 1, 2, 3), -1);
        due("no row", x.pass(Integer.MIN_VALUE, 1, 2, 3), -1);
        int[] noPerson = {0, -1, 1000, Integer.MAX_VALUE, Integer.MIN_VALUE};
        for (int person : noPerson) {
            due("no person A " + person, x.pass(1, person, 2, 3), -2);
            due("no person B " + person, x.pass(1, 2, person, 3), -2);
        }
        due("one person", x.pass(1, 7, 7, 3), -2);
        due("one person, and no seconds", x.pass(1, 7, 7, 0), -2);
        int[] noSeconds = {0, -1, 3601, Integer.MAX_VALUE, Integer.MIN_VALUE};
        for (int seconds : noSeconds) {
            due("no seconds " + seconds, x.pass(1, 1, 2, seconds), -3);
        }
        due("refused: it bars", x.act(0), 1);
        due("shortest", x.pass(1, 1, 999, 1), 0);
        due("again", x.pass(1, 3, 4, 1), -4);
        due("again, with no seconds", x.pass(1, 3, 4, 0), -3);
        due("again, one person", x.pass(1, 3, 3, 1), -2);
        due("longest", x.pass(2, 999, 1, 3600), 0);
        due("left", x.row(1, 5), 1);
        due("left", x.row(2, 5), 3600);
        x.tick(0);
        due("no second has gone by", x.pass(1, 3, 4, 1), -4);
        x.tick(1);
        due("anew", x.pass(1, 3, 4, 2), 0);
        due("left", x.row(1, 5), 2);
        InterlockTables off = withRows(ROW);
        due("a row that is off", off.pass(1, 1, 2, 3), 0);
    }

    private static void listed() {
        promise = "8 listed";
        InterlockTables x = withRows("bar a0 when c0; bar a1 when c0; bar a2 when c0; bar a3 when c0;");
        due("none", x.listed(0), -1);
        x.pass(4, 1, 2, 5);
        x.pass(1, 1, 2, 10);
        x.pass(3, 1, 2, 20);
        int[] want = {1, 3, 4, -1};
        for (int k = 0; k < want.length; k++) {
            due("listed(" + k + ")", x.listed(k), want[k]);
        }
        due("listed(-1)", x.listed(-1), -1);
        due("listed(least)", x.listed(Integer.MIN_VALUE), -1);
        due("listed(most)", x.listed(Integer.MAX_VALUE), -1);
        x.tick(4);
        due("one second is left", x.listed(2), 4);
        x.tick(1);
        due("listed(2)", x.listed(2), -1);
        due("listed(1)", x.listed(1), 3);
        x.tick(5);
        due("listed(0)", x.listed(0), 3);
        x.tick(10);
        due("listed(0)", x.listed(0), -1);
    }

    private static void reset() {
        promise = "9 reset";
        InterlockTables x = withOn("bar a0 when c0 latched; bar a1 when c0; bar a2 when c0 or c1 latched;", 0);
        due("not latched yet", x.reset(1), false);
        x.tick(1);
        due("on", x.reset(1), false);
        due("still latched", x.row(1, 4), 1);
        x.condition(0, false);
        x.condition(1, true);
        int[] none = {0, -1, 4, Integer.MAX_VALUE, Integer.MIN_VALUE};
        for (int row : none) {
            due("no row " + row, x.reset(row), false);
        }
        due("not latched", x.reset(2), false);
        due("on by another condition", x.reset(3), false);
        due("bars by its latch", x.act(0), 1);
        due("reset", x.reset(1), true);
        due("not latched any more", x.row(1, 4), 0);
        due("bars no more", x.act(0), 0);
        due("count stays", x.row(1, 3), 1);
        due("again", x.reset(1), false);
        x.condition(0, true);
        x.tick(1);
        due("latched anew", x.row(1, 4), 1);
        x.condition(0, false);
        x.pass(1, 1, 2, 5);
        due("reset of a by-passed row", x.reset(1), true);
    }

    private static void dueIdle(String text, int... want) {
        InterlockTables x = withRows(text);
        for (int k = 0; k < want.length; k++) {
            due("test(" + k + ") of " + text, x.test(k), want[k]);
        }
        due("test behind the last of " + text, x.test(want.length), -1);
        due("test(-1) of " + text, x.test(-1), -1);
    }

    private static void test() {
        promise = "10 test";
        dueIdle(ROW);
        dueIdle("bar a0 when c0 and not c0;", 1);
        dueIdle("bar a0 when c0 or not c0; bar a0 when c1; bar a1 when c1;", 2);
        dueIdle("bar a0 when c0; bar a0 when c0 and c1; bar a0 when c1;", 2);
        dueIdle("bar a0 when c0 and c1; bar a0 when c0;");
        dueIdle("bar a0 when c0; bar a1 when c1; bar a0 a1 when c0 and c1; bar a0 a1 a2 when c0 and c1;", 3);
        dueIdle("bar a0 when c0; bar a0 when not c0; bar a0 when c9; bar a0 a1 when c9 and not c9;", 3, 4);
        dueIdle("bar a0 when c0; bar a0 when c1; bar a0 when (c0 or c1) and c2;", 3);
        dueIdle("bar a0 when c0; bar a1 when c1; bar a0 a1 when c0 or c1;");
        // Holds, latches, by-passes and the conditions now make no difference.
        InterlockTables x = withOn("bar a0 when c0 for 3600 latched; bar a0 when c0;", 0);
        x.pass(1, 1, 2, 3);
        due("test(0)", x.test(0), 2);
        x.condition(0, false);
        x.tick(3);
        due("test(0)", x.test(0), 2);
        due("test(least)", x.test(Integer.MIN_VALUE), -1);
        due("test(most)", x.test(Integer.MAX_VALUE), -1);
        due("read", read(x, "bar a0 when c0; bar a1 when c0;"), 2);
        due("other rows", x.test(0), -1);
    }

    private static void testAllConditions() {
        promise = "10 test, all conditions";
        StringBuilder all = new StringBuilder("c0");
        StringBuilder any = new StringBuilder("not c0");
        for (int k = 1; k < 16; k++) {
            all.append(" and c").append(k);
            any.append(" or not c").append(k);
        }
        dueIdle("bar a0 when " + any + "; bar a0 when " + all + ";");
        dueIdle("bar a0 when " + any + "; bar a0 when " + all + "; bar a0 when c3;", 3);
        dueIdle("bar a0 when " + any + "; bar a0 when c4 and not c11; bar a0 when " + all + ";", 2);
        for (int k = 0; k < 16; k++) {
            dueIdle("bar a0 when " + any + "; bar a0 when not c" + k + "; bar a0 when c" + k + ";", 2);
            dueIdle("bar a0 when " + all + " and not c" + k + "; bar a0 when " + all + ";", 1);
        }
    }

    private static void row() {
        promise = "11 row";
        InterlockTables x = withOn("bar a3 a1 a2 when c0 and (c1 or c0) and not c2 for 3600 latched; bar a0 when c1;", 0);
        int[] want = {3, 3600, 1, 0, 0, 0, 4, 1, -1};
        int[] second = {1, 0, 0, 0, 0, 0, 1, 0, -1};
        for (int what = 0; what < want.length; what++) {
            due("row(1, " + what + ")", x.row(1, what), want[what]);
            due("row(2, " + what + ")", x.row(2, what), second[what]);
            due("row(0, " + what + ")", x.row(0, what), -1);
            due("row(3, " + what + ")", x.row(3, what), -1);
        }
        x.condition(1, true);
        x.pass(2, 1, 2, 3600);
        x.tick(3599);
        int[] then = {3, 3600, 1, 3599, 0, 0, 4, 1};
        int[] thenSecond = {1, 0, 0, 3599, 0, 1, 1, 1};
        for (int what = 0; what < then.length; what++) {
            due("then row(1, " + what + ")", x.row(1, what), then[what]);
            due("then row(2, " + what + ")", x.row(2, what), thenSecond[what]);
        }
        x.tick(1);
        due("latched", x.row(1, 4), 1);
        int[] none = {-1, 8, Integer.MAX_VALUE, Integer.MIN_VALUE};
        for (int n : none) {
            due("row(1, " + n + ")", x.row(1, n), -1);
            due("row(" + n + ", 0)", x.row(n, 0), -1);
        }
        dueEight();
    }

    private static void dueEight() {
        InterlockTables x = withRows("bar a0 a1 a2 a3 a4 a5 a6 a7 when c0" + " or c0".repeat(31) + ";");
        due("acts", x.row(1, 0), 8);
        due("conditions", x.row(1, 6), 32);
    }

    private static void dueWritten(String text, String want) {
        due("written " + text, written(withRows(text)), want);
        due("written again " + text, written(withRows(want)), want);
    }

    private static void write() {
        promise = "12 write";
        dueWritten("", "");
        dueWritten(ROW, ROW + "\n");
        dueWritten(" bar\n\na31  a10 a2 when(c15)  for 3600 latched ;bar a0 when not c9 for 10;",
            "bar a31 a10 a2 when c15 for 3600 latched;\nbar a0 when not c9 for 10;\n");
        dueWritten("bar a0 when c0 for 0 latched; bar a0 when c0 for 100; bar a0 when c0 for 1000;",
            "bar a0 when c0 for 0 latched;\nbar a0 when c0 for 100;\nbar a0 when c0 for 1000;\n");
        InterlockTables x = withRows(ROW);
        due("write(-1)", x.write(-1), -1);
        due("write(least)", x.write(Integer.MIN_VALUE), -1);
        due("write(most)", x.write(Integer.MAX_VALUE), -1);
        due("write(14)", x.write(14), (int) ';');
        due("write(15)", x.write(15), 10);
        due("write(16)", x.write(16), -1);
        read(x, "bar a1 when c1;x");
        due("behind a wrong text", written(x), ROW + "\n");
        read(x, "bar a1 when c1;");
        due("behind another text", written(x), "bar a1 when c1;\n");
        feed(x, "bar");
        due("a text that is not read", written(x), "bar a1 when c1;\n");
    }

    private static void dueExpression(String text, String want) {
        dueWritten("bar a0 when " + text + ";", "bar a0 when " + want + ";\n");
    }

    private static void writeBrackets() {
        promise = "12 write, brackets";
        dueExpression("((c0))", "c0");
        dueExpression("(c0 and c1)", "c0 and c1");
        dueExpression("(c0 or c1)", "c0 or c1");
        dueExpression("(c0 and c1) and c2", "c0 and c1 and c2");
        dueExpression("c0 and (c1 and c2)", "c0 and c1 and c2");
        dueExpression("c0 or (c1 or c2)", "c0 or c1 or c2");
        dueExpression("(c0 and c1) or (c2 and c3)", "c0 and c1 or c2 and c3");
        dueExpression("(c0 or c1)and(c2 or c3)", "(c0 or c1) and (c2 or c3)");
        dueExpression("c4 and ((c0 or c1))", "c4 and (c0 or c1)");
        dueExpression("c0 and ((c1 or c2) and c3) and c4", "c0 and (c1 or c2) and c3 and c4");
        dueExpression("((c0 or c1) and c2 or c3) and c4", "((c0 or c1) and c2 or c3) and c4");
        dueExpression("c4 and (c3 or c2 and (c1 or c0))", "c4 and (c3 or c2 and (c1 or c0))");
        dueExpression("not not c0", "not not c0");
        dueExpression("not (not (c0))", "not not c0");
        dueExpression("not (c0 and c1)", "not (c0 and c1)");
        dueExpression("not ((c0 or c1))", "not (c0 or c1)");
        dueExpression("not ((c0 or c1) and c2)", "not ((c0 or c1) and c2)");
        dueExpression("not(c0)and not(c1 or c2)or(not(c3))", "not c0 and not (c1 or c2) or not c3");
        dueExpression("not (not (c0 or c1))", "not not (c0 or c1)");
        dueExpression("(not (c0 or c1)) and c2", "not (c0 or c1) and c2");
        dueExpression("c0" + " or c1".repeat(31), "c0" + " or c1".repeat(31));
        String deepest = "not ".repeat(20) + "c0" + " and c1".repeat(31);
        dueExpression(deepest, deepest);
        dueExpression("(".repeat(20) + "c0" + " and c1)".repeat(20), "c0" + " and c1".repeat(20));
        dueExpression("not(".repeat(10) + "c0 or c1" + ")".repeat(10), "not ".repeat(10) + "(c0 or c1)");
        dueExpression("c0 and(c1 or ".repeat(15) + "c2" + ")".repeat(15), "c0 and (c1 or ".repeat(15) + "c2" + ")".repeat(15));
    }

    private static void clear() {
        promise = "13 clear";
        InterlockTables x = withOn("bar a0 when c0 latched;", 0);
        x.tick(1);
        x.pass(1, 1, 2, 3);
        feed(x, "bar a0");
        x.clear();
        due("no rows", x.row(1, 0), -1);
        due("no row bars", x.act(0), 0);
        due("no by-pass", x.listed(0), -1);
        due("nothing to write", x.write(0), -1);
        due("nothing to test", x.test(0), -1);
        due("no text", x.read(), 0);
        due("conditions stay", x.condition(0, true), false);
        due("rows again", read(x, "bar a0 when c0 latched;"), 1);
        due("conditions stay", x.row(1, 7), 1);
        due("no latch", x.row(1, 4), 0);
    }
}
