import java.util.Random;

/** Boundary cases of whole tables: promises 1 and 10 to 13, and how long an object is used. */
public final class TableBoundaries extends Boundaries {
    public static void main(String[] args) {
        newObject();
        testRange();
        testOneSetting();
        testOneAct();
        rowRange();
        rowWhats();
        writeRange();
        writeBlanks();
        writeBracketsOfOr();
        writeBracketsOfNot();
        clearAll();
        lastCallRead();
        lastCalls();
        laterCalls();
        text3000();
        row41();
        end();
    }

    // ---- Promise 1

    private static void newObject() {
        says("No text, no rows; all conditions are off.");
        due("state", new Counted().state(), "0 -1 -1 0 -1 -1 0 -1 -1 0 -1 -1 ");
        due("read", new Counted().read(), 0);
        Counted x = new Counted();
        due("pass", x.pass(1, 1, 2, 3), -1);
        due("reset", x.reset(1), false);
        due("row", x.row(1, 0), NONE);
        for (int k = 0; k < 16; k++) {
            due("off is not new", x.condition(k, false), false);
        }
        for (int k = 0; k < 16; k++) {
            due("on is new", x.condition(k, true), true);
        }
        due("another object has its own", new Counted().condition(0, true), true);
    }

    // ---- Promise 10

    private static void dueIdle(String text, int... want) {
        Counted x = with(text);
        for (int k = -1; k <= want.length + 1; k++) {
            due("test(" + k + ") of " + text, x.test(k), k >= 0 && k < want.length ? want[k] : NONE);
        }
        for (int k : new int[] {MIN, MIN + 1, MAX, 256, 65536}) {
            due("test(" + k + ") of " + text, x.test(k), NONE);
        }
    }

    private static void testRange() {
        says("Row number k, from 0, of those that are the first to bar for no act of theirs and no conditions. NONE.");
        dueIdle("");
        dueIdle(ROW);
        dueIdle("bar a0 when c0 and not c0;", 1);
        dueIdle(ROW + ROW, 2);
        dueIdle(ROW + ROW + "bar a1 when c0;" + ROW, 2, 4);
        dueIdle("bar a0 when c0 and not c0;" + ROW, 1);
        dueIdle(times(5, "bar a0 when c0 and not c0;"), 1, 2, 3, 4, 5);
        says("when rows bar just when they are on");
        dueIdle("bar a0 when c0 for 3600;" + ROW, 2);
        Counted x = withOn("bar a0 when c0 latched; bar a0 when c0 for 3600;", 0);
        for (int k = 1; k <= 3; k++) {
            due("idle", x.test(0), 2);
            due("no more", x.test(1), NONE);
            x.pass(1, 1, 2, 1 + k);
            x.tick(k);
            x.set(k == 2, 0);
        }
    }

    private static String joined(String join, String before) {
        StringBuilder all = new StringBuilder(before + "c0");
        for (int k = 1; k < 16; k++) {
            all.append(join).append(before).append("c").append(k);
        }
        return all.toString();
    }

    private static void testOneSetting() {
        says("for .. no conditions (one of 65,536 settings is enough)");
        String all = joined(" and ", "");
        String none = joined(" and ", "not ");
        String notAll = joined(" or ", "not ");
        String some = joined(" or ", "");
        dueIdle("bar a0 when " + all + ";");
        dueIdle("bar a0 when " + none + ";");
        dueIdle("bar a0 when " + notAll + "; bar a0 when c0;");
        dueIdle("bar a0 when " + some + "; bar a0 when not c0;");
        dueIdle("bar a0 when " + notAll + "; bar a0 when c0; bar a0 when c1;", 3);
        dueIdle("bar a0 when " + some + "; bar a0 when not c15; bar a0 when not c14;", 3);
        dueIdle("bar a0 when " + some + "; bar a0 when " + none + "; bar a0 when c3 or not c3;", 3);
        for (int k = 0; k < 16; k++) {
            dueIdle("bar a0 when " + all + " and not c" + k + ";", 1);
            dueIdle("bar a0 when " + notAll + "; bar a0 when not c" + k + "; bar a0 when c" + k + ";", 2);
            String oneOff = all.replaceFirst("c" + k + "\\b", "not c" + k);
            dueIdle("bar a0 when " + oneOff + "; bar a0 when not c" + k + " and " + oneOff + ";", 2);
            dueIdle("bar a0 when " + all + "; bar a0 when " + oneOff + ";");
        }
    }

    private static void testOneAct() {
        says("for no act of theirs (one act is enough)");
        for (int k = 0; k < 32; k++) {
            int other = (k + 7) % 32;
            String first = "bar a" + k + " when c0;";
            dueIdle(first + "bar a" + k + " when c0;", 2);
            dueIdle(first + "bar a" + other + " when c0;");
            dueIdle(first + "bar a" + k + " a" + other + " when c0;");
            dueIdle(first + "bar a" + other + " when c0; bar a" + other + " a" + k + " when c0;", 3);
        }
        String eight = "bar a0 a1 a2 a3 a4 a5 a6 a7 when c0;";
        dueIdle(eight + eight, 2);
        dueIdle("bar a0 a1 a2 a3 a4 a5 a6 when c0;" + eight);
        dueIdle("bar a1 a2 a3 a4 a5 a6 a7 when c0;" + eight);
        // One row before has the acts, others together have the settings.
        dueIdle("bar a0 when c0; bar a1 when not c0; bar a0 a1 when c0;");
        dueIdle("bar a0 when c0; bar a0 when not c0; bar a0 when c1;", 3);
        dueIdle("bar a0 when c0 and c1; bar a0 when c0 and not c1; bar a0 when c0;", 3);
    }

    // ---- Promise 11

    private static void rowRange() {
        says("NONE when there is none, or for another what.");
        Counted x = with(ROW + ROW);
        for (int what = -2; what <= 10; what++) {
            for (int k = -1; k <= 4; k++) {
                boolean there = k >= 1 && k <= 2 && what >= 0 && what <= 7;
                due("row(" + k + ", " + what + ")", x.row(k, what) == NONE, !there);
            }
            due("row of no rows", new Counted().row(1, what), NONE);
        }
        for (int odd : new int[] {MIN, MIN + 1, MAX, 256, 257, 65537}) {
            due("row(" + odd + ", 0)", x.row(odd, 0), NONE);
            due("row(1, " + odd + ")", x.row(1, odd), NONE);
            due("row(" + odd + ", " + odd + ")", x.row(odd, odd), NONE);
        }
    }

    private static void dueRow(Counted x, int k, int... want) {
        for (int what = 0; what < want.length; what++) {
            due("row(" + k + ", " + what + ")", x.row(k, what), want[what]);
        }
    }

    private static void rowWhats() {
        says("how many acts it has (0), its number of seconds (1), .. the seconds left of its by-pass, 0 without (5)");
        Counted x = with("bar" + each(8, " a", "") + " when c0" + times(31, " or c0") + " for 3600 latched;" + ROW);
        dueRow(x, 1, 8, 3600, 1, 0, 0, 0, 32, 0, NONE);
        dueRow(x, 2, 1, 0, 0, 0, 0, 0, 1, 0, NONE);
        x.set(true, 0);
        x.pass(1, 1, 2, 3600);
        dueRow(x, 1, 8, 3600, 1, 0, 0, 3600, 32, 1, NONE);
        x.tick(3599);
        dueRow(x, 1, 8, 3600, 1, 3599, 0, 1, 32, 1, NONE);
        dueRow(x, 2, 1, 0, 0, 3599, 0, 0, 1, 1, NONE);
        x.tick(1);
        dueRow(x, 1, 8, 3600, 1, 3600, 1, 0, 32, 1, NONE);
        x.set(false, 0);
        dueRow(x, 1, 8, 3600, 1, 3600, 1, 0, 32, 0, NONE);
        x.tick(1);
        dueRow(x, 1, 8, 3600, 1, 0, 1, 0, 32, 0, NONE);
        dueRow(x, 2, 1, 0, 0, 0, 0, 0, 1, 0, NONE);
    }

    // ---- Promise 12

    private static void writeRange() {
        says("Byte i of the rows as a text, each in a line of its own that ends with a line feed. NONE when there is none.");
        Counted x = with("bar a0 when c0;bar a31 when c15;");
        String want = "bar a0 when c0;\nbar a31 when c15;\n";
        for (int i = -3; i < want.length() + 3; i++) {
            due("write(" + i + ")", x.write(i), i >= 0 && i < want.length() ? want.charAt(i) : NONE);
        }
        for (int i : new int[] {MIN, MIN + 1, MAX, 256, 3000, 6000, 65536}) {
            due("write(" + i + ")", x.write(i), NONE);
        }
        due("backwards", x.write(want.length() - 1), 10);
        due("a text that is not read is none of the rows", new Counted().write(0), NONE);
        x.feed("bar a1");
        due("nor behind them", x.write(want.length()), NONE);
        x.read();
        due("nor when it was wrong", x.write(want.length()), NONE);
        x.clear();
        due("cleared", x.write(0), NONE);
    }

    private static void dueWritten(String text, String want) {
        due("written " + shown(text), writtenOf(text), want);
        due("written again " + shown(text), writtenOf(want), want);
    }

    private static void dueExpression(String text, String want) {
        dueWritten("bar a0 when " + text + ";", "bar a0 when " + want + ";\n");
    }

    private static void writeBlanks() {
        says("words with a blank between, but none behind ( and none before ) and ;");
        dueWritten("\n bar\na0   a1 when ( c0 or c1 ) and not ( ( c2 or c3 ) and c4 ) for 7 latched ;\n",
            "bar a0 a1 when (c0 or c1) and not ((c2 or c3) and c4) for 7 latched;\n");
        dueWritten("bar a0 when(c0 or c1)and(c2 or c3)and not(c4 or c5);",
            "bar a0 when (c0 or c1) and (c2 or c3) and not (c4 or c5);\n");
        for (int n : new int[] {1, 9, 10, 99, 100, 999, 1000, 3599, 3600}) {
            dueWritten("bar a0 when c0 for " + n + " ;", "bar a0 when c0 for " + n + ";\n");
        }
        for (int n : new int[] {0, 9, 10, 15}) {
            dueWritten("bar a" + n + " when c" + n + " ;", "bar a" + n + " when c" + n + ";\n");
        }
        dueWritten("bar a31 a0 when c0 latched ;bar a19 when c9 ;", "bar a31 a0 when c0 latched;\nbar a19 when c9;\n");
        dueWritten("bar" + each(8, " a", "") + " when c0;", "bar" + each(8, " a", "") + " when c0;\n");
        String most = "c15" + times(31, " or c15");
        dueExpression(most, most);
        String tight = "(c0 or c1)" + times(15, "and(c2 or c3)");
        dueExpression(tight, tight.replace("and", " and "));
        String rows = times(31, ROW);
        dueWritten(rows, rows.replace(";", ";\n"));
    }

    private static void writeBracketsOfOr() {
        says("Brackets stand only around an or that is part of an and");
        dueExpression("(c0)", "c0");
        dueExpression(times(20, "(") + "c0" + times(20, ")"), "c0");
        dueExpression("(c0 or c1)", "c0 or c1");
        dueExpression("(c0 and c1)", "c0 and c1");
        dueExpression("(c0 or c1) or c2", "c0 or c1 or c2");
        dueExpression("c0 or (c1 or c2)", "c0 or c1 or c2");
        dueExpression("(c0 and c1) and c2", "c0 and c1 and c2");
        dueExpression("c0 and (c1 and c2)", "c0 and c1 and c2");
        dueExpression("c0 or (c1 and c2)", "c0 or c1 and c2");
        dueExpression("(c0 and c1) or c2", "c0 and c1 or c2");
        dueExpression("(c0 or c1) and c2", "(c0 or c1) and c2");
        dueExpression("c0 and (c1 or c2)", "c0 and (c1 or c2)");
        dueExpression("c0 and ((c1 or c2))", "c0 and (c1 or c2)");
        dueExpression("c0 and (c1 and (c2 or c3))", "c0 and c1 and (c2 or c3)");
        dueExpression("c0 and ((c1 or c2) and c3)", "c0 and (c1 or c2) and c3");
        dueExpression("c0 or (c1 and (c2 or c3))", "c0 or c1 and (c2 or c3)");
        dueExpression("c0 and (c1 or (c2 or c3))", "c0 and (c1 or c2 or c3)");
        dueExpression("c0 and (not c1) and (not (c2))", "c0 and not c1 and not c2");
        String deep = "c3 and " + times(15, "(c0 or c1 and ") + "c2" + times(15, ")");
        dueExpression(deep, deep);
        dueExpression(times(20, "(") + "c0" + times(20, " or c1)"), "c0" + times(20, " or c1"));
        String left = times(10, "(") + "c0" + times(10, " or c1) and c2");
        dueExpression(left, left);
    }

    private static void writeBracketsOfNot() {
        says("and around what is none of not, condition behind a not");
        dueExpression("not c0", "not c0");
        dueExpression("not (c0)", "not c0");
        dueExpression("not not c0", "not not c0");
        dueExpression("not (not c0)", "not not c0");
        dueExpression("not (not (c0))", "not not c0");
        dueExpression("not (c0 or c1)", "not (c0 or c1)");
        dueExpression("not (c0 and c1)", "not (c0 and c1)");
        dueExpression("not ((c0 and c1))", "not (c0 and c1)");
        dueExpression("not (not (c0 and c1))", "not not (c0 and c1)");
        dueExpression("not c0 and c1", "not c0 and c1");
        dueExpression("(not c0) or c1", "not c0 or c1");
        dueExpression("not (c0 or c1) and c2", "not (c0 or c1) and c2");
        dueExpression("(not (c0 and c1)) or c2", "not (c0 and c1) or c2");
        dueExpression("not (c0 and (c1 or c2))", "not (c0 and (c1 or c2))");
        dueExpression("not ((c0 and c1) or c2)", "not (c0 and c1 or c2)");
        dueExpression(times(20, "not ") + "c0", times(20, "not ") + "c0");
        dueExpression(times(19, "not ") + "(c0 or c1)", times(19, "not ") + "(c0 or c1)");
        dueExpression(times(10, "not(") + "c0" + times(10, ")"), times(10, "not ") + "c0");
        String deepest = times(19, "not ") + "(c0" + times(31, " or c1") + ")";
        dueExpression(deepest, deepest);
        String nested = times(10, "not (c0 and ") + "c1" + times(10, ")");
        dueExpression(nested, nested);
    }

    // ---- Promise 13

    private static void clearAll() {
        says("No rows, no text; conditions stay.");
        Counted fresh = new Counted();
        fresh.clear();
        due("clear of nothing", fresh.state(), new Counted().state());
        due("no text", fresh.read(), 0);
        Counted x = withOn("bar a0 when c0 latched;", 0, 15);
        x.tick(1);
        x.pass(1, 1, 2, 3600);
        x.test(0);
        x.write(0);
        x.feed("bar a0 when");
        x.clear();
        due("no rows", x.state(), new Counted().state());
        due("no such row", x.pass(1, 1, 2, 3), -1);
        due("no such row", x.reset(1), false);
        due("no text", x.read("c0;"), -1);
        due("rows anew", x.read("bar a0 when c0 latched;"), 1);
        dueRow(x, 1, 1, 0, 1, 0, 0, 0, 1, 1, NONE);
        for (int k = 0; k < 16; k++) {
            due("condition " + k, x.condition(k, k == 0 || k == 15), false);
        }
    }

    // ---- 512 calls, and limits that they do not reach

    private static void lastCallRead() {
        says("An object is used for at most 512 calls after it has been made");
        Counted x = new Counted();
        due("the 512th call", x.read(times(34, ROW) + "\n"), 34);
        due("calls", x.calls, MOST_CALLS);
        Counted y = new Counted();
        due("the 512th call", y.read(times(33, ROW) + "bar a0 when c0 ?"), -1 - 169);
        Counted z = new Counted();
        due("the 511th call", z.read(times(34, ROW)), 34);
        due("the 512th call", z.row(34, 0), 1);
    }

    private static void lastCalls() {
        says("An object is used for at most 512 calls after it has been made");
        String text = "bar a0 when c0 for 3600 latched;";
        for (int kind = 0; kind < 9; kind++) {
            Counted x = withOn(text, 0);
            while (x.calls < MOST_CALLS - 2) {
                x.tick(100);
            }
            x.pass(1, 1, 2, 100);
            switch (kind) {
                case 0: due("act", x.act(0), 0); break;
                case 1: due("listed", x.listed(0), 1); break;
                case 2: due("reset", x.reset(1), false); break;
                case 3: due("test", x.test(0), NONE); break;
                case 4: due("row", x.row(1, 3), 100 * (MOST_CALLS - 3 - text.length() - 1)); break;
                case 5: due("write", x.write(0), (int) 'b'); break;
                case 6: due("read", x.read(), 0); break;
                case 7: due("condition", x.condition(0, false), true); break;
                default: due("tick", x.tick(100_000), true); break;
            }
            due("calls", x.calls, MOST_CALLS);
        }
        Counted reads = new Counted();
        while (reads.calls < MOST_CALLS) {
            due("read", reads.read(), 0);
        }
    }

    private static void laterCalls() {
        says("what later calls answer is free (but none throws, and each ends)");
        Random random = new Random(5);
        int[] odd = {MIN, MIN + 1, -2, -1, 0, 1, 2, 15, 16, 31, 32, 40, 41, 127, 128, 999, 1000, 3600, 3601, 100_000, MAX};
        String bytes = "()()notand or bar a0 c1 when c0 for 12; latched;\n";
        for (int run = 0; run < 20; run++) {
            InterlockTables x = new InterlockTables();
            for (int i = 0; i < 4000; i++) {
                int a = odd[random.nextInt(odd.length)];
                int b = odd[random.nextInt(odd.length)];
                switch (random.nextInt(run % 2 == 0 ? 13 : 40)) {
                    case 0: x.read(); break;
                    case 1: x.condition(a, random.nextBoolean()); break;
                    case 2: x.tick(a); break;
                    case 3: x.act(a); break;
                    case 4: x.pass(a, b, 2, b); break;
                    case 5: x.listed(a); break;
                    case 6: x.reset(a); break;
                    case 7: x.test(a); break;
                    case 8: x.row(a, b); break;
                    case 9: x.write(a); break;
                    case 10: if (random.nextInt(20) == 0) x.clear(); break;
                    case 11: x.unit(a); break;
                    case 12: for (int k = 0; k < ROW.length(); k++) x.unit(ROW.charAt(k)); break;
                    default: x.unit(bytes.charAt(random.nextInt(bytes.length()))); break;
                }
            }
        }
    }

    private static void text3000() {
        says("False, refused, .. when there are 3,000. (beyond 512 calls: kept all the same)");
        for (String unit : new String[] {"(", " ", "x", ";"}) {
            InterlockTables x = new InterlockTables();
            for (int i = 1; i <= 3000; i++) {
                due("unit number " + i, x.unit(unit.charAt(0)), true);
            }
            due("unit number 3001", x.unit(unit.charAt(0)), false);
            due("unit number 3002", x.unit(' '), false);
            due("another byte", x.unit(0), false);
            due("read", x.read(), unit.equals(" ") ? 0 : -1);
            due("room again", x.unit('b'), true);
        }
        InterlockTables x = new InterlockTables();
        // What is written of it is longer than the text: it has all the blanks.
        String row = "bar a0 when(c0 or c1)" + times(4, "and(c2 or c3)") + ";";
        String text = times(40, row) + times(3000 - 40 * row.length(), " ");
        for (int i = 0; i < text.length(); i++) {
            x.unit(text.charAt(i));
        }
        due("refused", x.unit('?'), false);
        due("a full text", x.read(), 40);
        int written = 40 * (row.length() + 1 + 2 * 4 + 1);
        due("its last byte", x.write(written - 1), 10);
        due("no more", x.write(written), NONE);
    }

    private static void row41() {
        says("a row that would be the 41st (its bar) (beyond 512 calls: kept all the same)");
        for (int rows = 39; rows <= 42; rows++) {
            InterlockTables x = new InterlockTables();
            String text = times(rows, ROW);
            for (int i = 0; i < text.length(); i++) {
                x.unit(text.charAt(i));
            }
            due(rows + " rows", x.read(), rows <= 40 ? rows : -1 - 200);
            due("row 40", x.row(40, 0), rows == 40 ? 1 : NONE);
        }
    }
}
