/** Boundary cases of rows as time goes by, and of promises 4 to 9. */
public final class RowBoundaries extends Boundaries {
    public static void main(String[] args) {
        rowsFromOne();
        countAtFirst();
        countAtMost();
        countElseNought();
        holds();
        holdsWithoutFor();
        latchedBehindASecond();
        latchedUntilReset();
        countsAndLatchesBelowAByPass();
        bars();
        conditionNew();
        conditionRange();
        tickRange();
        tickRefused();
        tickNought();
        actRange();
        actFirst();
        passRow();
        passPersons();
        passSeconds();
        passAgain();
        passEnds();
        listedRange();
        resetRefused();
        end();
    }

    // ---- Terms: rows

    private static void rowsFromOne() {
        says("ROWS are numbered from 1, in the order of the text.");
        Counted x = with("bar a0 when c0 for 11; bar a0 when c0 for 12; bar a0 when c0 for 13;");
        int[] want = {NONE, NONE, 11, 12, 13, NONE, NONE};
        for (int k = -1; k <= 5; k++) {
            due("row(" + k + ", 1)", x.row(k, 1), want[k + 1]);
        }
        Counted most = with(times(33, ROW));
        due("the 33rd row", most.row(33, 0), 1);
        due("no 34th row", most.row(34, 0), NONE);
    }

    private static void countAtFirst() {
        says("Its COUNT is 0 at first; in each second that goes by it becomes one more when the row is on");
        Counted x = withOn(ROW + "bar a1 when not c0;", 0);
        due("at first", x.row(1, 3), 0);
        due("at first, off", x.row(2, 3), 0);
        for (int second = 1; second <= 100; second++) {
            x.tick(1);
            due("count", x.row(1, 3), second);
            due("count, off", x.row(2, 3), 0);
        }
        x.tick(100_000);
        due("a long tick", x.row(1, 3), 100_100);
    }

    private static void countAtMost() {
        says("at most 1,000,000");
        int[][] ways = {{100_000, 99_998, 1, 1, 1, 1}, {99_999, 99_999, 1, 2, 100_000}, {99_999, 100_000, 100_000}};
        for (int[] way : ways) {
            Counted x = withOn("bar a0 when c0 for 3600 latched;", 0);
            int seconds = 0;
            for (int i = 0; i < 8; i++) {
                x.tick(100_000);
                seconds += 100_000;
            }
            for (int more : way) {
                due("tick(" + more + ")", x.tick(more), true);
                seconds += more;
                due("count behind " + seconds, x.row(1, 3), Math.min(seconds, 1_000_000));
            }
            due("holds at the most", x.act(0), 1);
            for (int i = 0; i < 300; i++) {
                x.tick(100_000);
            }
            due("count behind more seconds", x.row(1, 3), 1_000_000);
            due("holds still", x.act(0), 1);
            x.set(false, 0);
            x.tick(1);
            due("off", x.row(1, 3), 0);
            x.set(true, 0);
            x.tick(1);
            due("on", x.row(1, 3), 1);
        }
    }

    private static void countElseNought() {
        says("it becomes one more when the row is on, .. else 0");
        for (int seconds : new int[] {1, 2, 3600, 100_000}) {
            Counted x = withOn(ROW, 0);
            x.tick(seconds);
            x.set(false, 0);
            due("no second off", x.row(1, 3), seconds);
            x.tick(0);
            due("no second off", x.row(1, 3), seconds);
            x.set(true, 0);
            x.tick(1);
            due("off and on within no second", x.row(1, 3), seconds + 1);
            x.set(false, 0);
            x.tick(1);
            due("a second off", x.row(1, 3), 0);
            x.tick(seconds);
            due("more seconds off", x.row(1, 3), 0);
            x.set(true, 0);
            due("on, no second", x.row(1, 3), 0);
            x.tick(1);
            due("on again", x.row(1, 3), 1);
        }
    }

    private static void holds() {
        says("It HOLDS now when it is on, and its count is at least its number");
        for (int n : new int[] {1, 2, 3, 100, 3599, 3600}) {
            Counted x = withOn("bar a0 when c0 for " + n + ";", 0);
            due("at first", x.act(0), 0);
            x.tick(n - 1);
            due("a second less than " + n, x.act(0), 0);
            x.tick(0);
            due("no second more", x.act(0), 0);
            x.tick(1);
            due("seconds " + n, x.act(0), 1);
            x.tick(1);
            due("a second more than " + n, x.act(0), 1);
            x.set(false, 0);
            due("off", x.act(0), 0);
            x.set(true, 0);
            due("on again within no second", x.act(0), 1);
            x.set(false, 0);
            x.tick(1);
            x.set(true, 0);
            due("on again behind a second", x.act(0), 0);
            x.tick(n - 1);
            due("again a second less", x.act(0), 0);
            x.tick(1);
            due("again enough", x.act(0), 1);
        }
    }

    private static void holdsWithoutFor() {
        says("its number (for; 0 without)");
        for (String number : new String[] {"", " for 0", " for 1"}) {
            Counted x = with("bar a0 when c0" + number + "; bar a1 when not c0" + number + ";");
            int atOnce = number.endsWith("1") ? 0 : 1;
            due("number" + number, x.row(1, 1), 1 - atOnce);
            due("off" + number, x.act(0), 0);
            due("on at first" + number, x.act(1), 2 * atOnce);
            x.set(true, 0);
            due("on" + number, x.act(0), atOnce);
            due("off" + number, x.act(1), 0);
            x.tick(1);
            due("a second" + number, x.act(0), 1);
        }
    }

    private static void latchedBehindASecond() {
        says("LATCHED behind a second at whose end it holds (its count being that of the end)");
        for (int n : new int[] {1, 2, 3, 3599, 3600}) {
            Counted x = withOn("bar a0 when c0 for " + n + " latched; bar a1 when c0 for " + n + ";", 0);
            x.tick(n - 1);
            due("a second before the end of " + n, x.row(1, 4), 0);
            x.tick(0);
            due("no second more", x.row(1, 4), 0);
            x.tick(1);
            due("at the end of " + n, x.row(1, 4), 1);
            due("without latched", x.row(2, 4), 0);
            Counted atOnce = withOn("bar a0 when c0 for " + n + " latched;", 0);
            atOnce.tick(n);
            due("all seconds at once", atOnce.row(1, 4), 1);
            Counted longer = withOn("bar a0 when c0 for " + n + " latched;", 0);
            longer.tick(100_000);
            due("more seconds at once", longer.row(1, 4), 1);
        }
        for (String number : new String[] {"", " for 0"}) {
            Counted x = with("bar a0 when c0" + number + " latched;");
            x.tick(1);
            due("a second off", x.row(1, 4), 0);
            x.set(true, 0);
            x.tick(0);
            due("holds, behind no second", x.act(0) + 10 * x.row(1, 4), 1);
            x.set(false, 0);
            x.tick(1);
            due("on within no second", x.row(1, 4), 0);
            x.set(true, 0);
            x.tick(1);
            due("a second on", x.row(1, 4), 1);
        }
        Counted x = withOn("bar a0 when c0 for 2 latched;", 0);
        for (int i = 0; i < 50; i++) {
            x.set(true, 0);
            x.tick(1);
            x.set(false, 0);
            x.tick(1);
        }
        due("never two seconds on", x.row(1, 4), 0);
    }

    private static void latchedUntilReset() {
        says("LATCHED .. until it is reset");
        Counted x = withOn("bar a0 when c0 latched;", 0);
        x.tick(1);
        x.set(false, 0);
        x.tick(1);
        due("a second off", x.row(1, 4), 1);
        for (int i = 0; i < 20; i++) {
            x.tick(100_000);
        }
        due("many seconds off", x.row(1, 4), 1);
        x.pass(1, 1, 2, 5);
        due("by-passed", x.row(1, 4), 1);
        x.tick(5);
        due("the by-pass has ended", x.row(1, 4), 1);
        due("a wrong text", x.read("bar a0 when;"), -4);
        due("latched behind a wrong text", x.row(1, 4), 1);
        due("bars", x.act(0), 1);
        due("reset", x.reset(1), true);
        due("latched no more", x.row(1, 4), 0);
        due("bars no more", x.act(0), 0);
        x.tick(100_000);
        due("nor later", x.row(1, 4), 0);
    }

    private static void countsAndLatchesBelowAByPass() {
        says("in each second that goes by .. A row with latched is LATCHED behind a second at whose end it holds");
        Counted x = withOn("bar a0 when c0 for 3 latched;", 0);
        x.pass(1, 1, 2, 3);
        x.tick(2);
        due("count of a by-passed row", x.row(1, 3), 2);
        due("latched too early", x.row(1, 4), 0);
        x.tick(1);
        due("latched as the by-pass ends", x.row(1, 4), 1);
        due("and bars then", x.act(0), 1);
        x.pass(1, 1, 2, 2);
        x.set(false, 0);
        x.tick(1);
        due("count of a by-passed row that is off", x.row(1, 3), 0);
        due("barred by none", x.act(0), 0);
        x.tick(1);
        due("barred by the latch", x.act(0), 1);
    }

    private static void bars() {
        says("It BARS its acts when it holds or is latched, and is not by-passed.");
        for (int way = 0; way < 8; way++) {
            boolean holds = (way & 1) != 0;
            boolean latched = (way & 2) != 0;
            boolean passed = (way & 4) != 0;
            Counted x = withOn("bar a0 a31 when c0 for 1" + (latched ? " latched;" : ";"), 0);
            x.tick(1);
            x.set(holds, 0);
            due("latched", x.row(1, 4), latched ? 1 : 0);
            if (passed) {
                due("pass", x.pass(1, 1, 2, 2), 0);
            }
            int want = (holds || latched) && !passed ? 1 : 0;
            due("bars, way " + way, x.act(0), want);
            due("bars its other act, way " + way, x.act(31), want);
            due("bars no other act, way " + way, x.act(1), 0);
            x.tick(1);
            due("a second of the by-pass is left, way " + way, x.act(0), want);
            x.tick(1);
            due("without by-pass, way " + way, x.act(0), holds || latched ? 1 : 0);
        }
    }

    // ---- Promise 4

    private static void conditionNew() {
        says("A condition is on or off from now on: whether that is new.");
        Counted x = new Counted();
        for (int k = 0; k < 16; k++) {
            due("off, at first", x.condition(k, false), false);
            due("on", x.condition(k, true), true);
            due("on again", x.condition(k, true), false);
            x.tick(1);
            due("on behind a second", x.condition(k, true), false);
            due("off", x.condition(k, false), true);
            due("off again", x.condition(k, false), false);
            due("on", x.condition(k, true), true);
        }
        x.clear();
        due("on, though all is cleared", x.condition(7, true), false);
    }

    private static void conditionRange() {
        says("False when k is not 0 .. 15.");
        Counted x = with(each(16, "bar a0 when c", ";"));
        int[] none = {-1, 16, -2, 17, 31, 32, 48, 64, 256, 65536, -16, -15, MIN, MIN + 1, MAX};
        for (int k : none) {
            due("condition(" + k + ", true)", x.condition(k, true), false);
        }
        for (int k = 1; k <= 16; k++) {
            due("row " + k + " is off still", x.row(k, 7), 0);
        }
        for (int k = 0; k < 16; k++) {
            due("condition(" + k + ", true)", x.condition(k, true), true);
        }
        for (int k : none) {
            due("condition(" + k + ", false)", x.condition(k, false), false);
        }
        for (int k = 1; k <= 16; k++) {
            due("row " + k + " is on still", x.row(k, 7), 1);
        }
    }

    // ---- Promise 5

    private static void tickRange() {
        says("So many seconds go by (0 to 100,000): true. False, refused, for another number.");
        int[] good = {0, 1, 2, 99_999, 100_000};
        int[] refused = {-1, -2, 100_001, 100_002, -100_000, 131_072, MIN, MIN + 1, MAX, MAX - 1};
        for (int seconds : good) {
            Counted x = withOn(ROW, 0);
            due("tick(" + seconds + ")", x.tick(seconds), true);
            due("count behind " + seconds, x.row(1, 3), seconds);
            due("on no rows", new Counted().tick(seconds), true);
        }
        for (int seconds : refused) {
            due("tick(" + seconds + ")", withOn(ROW, 0).tick(seconds), false);
            due("on no rows", new Counted().tick(seconds), false);
        }
    }

    private static void tickRefused() {
        says("False, refused");
        for (int seconds : new int[] {-1, 100_001, MIN, MAX}) {
            Counted x = withOn("bar a0 when c0 for 3 latched; bar a1 when not c0;", 0);
            x.tick(2);
            x.pass(2, 1, 2, 7);
            String before = x.state();
            due("tick(" + seconds + ")", x.tick(seconds), false);
            due("state", x.state(), before);
            x.set(false, 0);
            due("tick(" + seconds + ")", x.tick(seconds), false);
            due("the count stays though it is off", x.row(1, 3), 2);
        }
    }

    private static void tickNought() {
        says("So many seconds go by (0 to ..)");
        Counted x = withOn("bar a0 when c0 latched; bar a1 when not c0;", 0);
        x.tick(2);
        x.reset(1);
        x.pass(2, 1, 2, 1);
        x.set(false, 0);
        String before = x.state();
        due("tick(0)", x.tick(0), true);
        due("state", x.state(), before);
        Counted y = withOn("bar a0 when c0 latched;", 0);
        y.tick(0);
        due("no latch behind no second", y.row(1, 4), 0);
        y.tick(1);
        due("a latch behind one", y.row(1, 4), 1);
    }

    // ---- Promise 6

    private static void actRange() {
        says("NONE when k is not 0 .. 31.");
        Counted x = withOn("bar a0 a31 when c0;", 0);
        Counted noRows = new Counted();
        for (int k = -70; k <= 100; k++) {
            int want = k < 0 || k > 31 ? NONE : k == 0 || k == 31 ? 1 : 0;
            due("act(" + k + ")", x.act(k), want);
            due("act(" + k + ") of no rows", noRows.act(k), want == NONE ? NONE : 0);
        }
        for (int k : new int[] {MIN, MIN + 31, MAX, 256, 65536, 65567}) {
            due("act(" + k + ")", x.act(k), NONE);
        }
    }

    private static void actFirst() {
        says("The first row that bars an act now, 0 when none does.");
        Counted x = with(each(12, "bar a0 when c", ";") + "bar a1 when c11;");
        due("none", x.act(0), 0);
        for (int k = 11; k >= 0; k--) {
            x.set(true, k);
            due("first of the rows from " + (k + 1), x.act(0), k + 1);
        }
        due("a row that is not the first of all", x.act(1), 13);
        for (int k = 0; k < 12; k++) {
            due("first", x.act(0), k + 1);
            x.pass(k + 1, 1, 2, 9);
        }
        due("all are by-passed", x.act(0), 0);
        x.tick(9);
        due("none is", x.act(0), 1);
        for (int k = 0; k < 12; k++) {
            due("first", x.act(0), k + 1);
            x.set(false, k);
        }
        due("none is on", x.act(0), 0);
    }

    // ---- Promise 7

    private static void passRow() {
        says("Refused: -1 there is no such row");
        Counted x = withOn(ROW + ROW, 0);
        for (int row : new int[] {0, -1, 3, 4, 257, 65537, MIN, MIN + 1, MAX}) {
            due("pass of " + row, x.pass(row, 1, 2, 3), -1);
            due("pass of " + row + ", and all else is wrong", x.pass(row, 0, 0, 0), -1);
        }
        due("nothing is by-passed", x.listed(0), NONE);
        due("the last row", x.pass(2, 1, 2, 3), 0);
        due("the first row", x.pass(1, 1, 2, 3), 0);
        due("no rows", new Counted().pass(1, 1, 2, 3), -1);
        x.clear();
        due("rows that are gone", x.pass(1, 1, 2, 3), -1);
    }

    private static void passPersons() {
        says("-2 the persons are not 1 .. 999, or one and the same");
        int[] none = {0, -1, 1000, 1001, -999, 65537, MIN, MIN + 1, MAX};
        Counted x = withOn(ROW, 0);
        for (int person : none) {
            due("person A " + person, x.pass(1, person, 2, 3), -2);
            due("person B " + person, x.pass(1, 2, person, 3), -2);
            due("both " + person, x.pass(1, person, person, 3), -2);
            due("no seconds either", x.pass(1, person, 2, 0), -2);
        }
        for (int person : new int[] {1, 2, 500, 998, 999}) {
            due("one and the same " + person, x.pass(1, person, person, 3), -2);
            due("no seconds either", x.pass(1, person, person, 3601), -2);
        }
        due("refused: nothing is by-passed", x.listed(0), NONE);
        due("refused: it bars", x.act(0), 1);
        int[][] pairs = {{1, 2}, {2, 1}, {1, 999}, {999, 1}, {999, 998}, {998, 999}};
        for (int[] pair : pairs) {
            due("persons " + pair[0] + ", " + pair[1], x.pass(1, pair[0], pair[1], 1), 0);
            due("it is by-passed, and the persons are wrong", x.pass(1, 1, 1, 1), -2);
            x.tick(1);
        }
    }

    private static void passSeconds() {
        says("-3 seconds are not 1 .. 3,600");
        Counted x = withOn(ROW, 0);
        for (int seconds : new int[] {0, -1, 3601, 3602, -3600, 65537, MIN, MIN + 1, MAX}) {
            due("seconds " + seconds, x.pass(1, 1, 2, seconds), -3);
        }
        due("refused: nothing is by-passed", x.listed(0), NONE);
        due("refused: it bars", x.act(0), 1);
        for (int seconds : new int[] {1, 2, 3599, 3600}) {
            due("seconds " + seconds, x.pass(1, 1, 2, seconds), 0);
            due("seconds left", x.row(1, 5), seconds);
            due("it is by-passed, and seconds are wrong", x.pass(1, 1, 2, 3601), -3);
            due("it is by-passed, and seconds are wrong", x.pass(1, 1, 2, 0), -3);
            x.tick(seconds);
        }
    }

    private static void passAgain() {
        says("-4 it is by-passed");
        Counted x = withOn(ROW + ROW, 0);
        due("pass", x.pass(1, 1, 2, 3), 0);
        due("at once", x.pass(1, 1, 2, 3), -4);
        due("by others, for longer", x.pass(1, 3, 4, 3600), -4);
        due("refused: seconds left", x.row(1, 5), 3);
        due("another row", x.pass(2, 1, 2, 3600), 0);
        x.tick(0);
        due("no second less", x.pass(1, 1, 2, 3), -4);
        x.tick(2);
        due("one second left", x.pass(1, 1, 2, 3), -4);
        due("refused: seconds left", x.row(1, 5), 1);
        x.tick(1);
        due("none left", x.pass(1, 3, 4, 5), 0);
        due("the other row is by-passed still", x.pass(2, 1, 2, 3), -4);
        due("seconds left", x.row(1, 5), 5);
    }

    private static void passEnds() {
        says("A row is by-passed for so many seconds from now on: 0.");
        for (int seconds : new int[] {1, 2, 3599, 3600}) {
            for (int late = 0; late <= 2; late++) {
                Counted x = withOn(ROW, 0);
                x.tick(10);
                due("pass", x.pass(1, 1, 2, seconds), 0);
                due("from now on", x.act(0), 0);
                x.tick(seconds - 1);
                due("the last second", x.act(0), 0);
                due("the last second", x.row(1, 5), 1);
                due("the last second", x.listed(0), 1);
                x.tick(late == 2 ? 100_000 : late);
                due("the end", x.act(0), late == 0 ? 0 : 1);
                due("the end", x.row(1, 5), late == 0 ? 1 : 0);
                due("the end", x.listed(0), late == 0 ? 1 : NONE);
            }
            Counted x = withOn(ROW, 0);
            x.pass(1, 1, 2, seconds);
            x.tick(seconds);
            due("all seconds at once", x.act(0), 1);
        }
    }

    // ---- Promise 8

    private static void listedRange() {
        says("Row number k, from 0, of those that are by-passed now. NONE.");
        Counted x = with(times(5, ROW));
        due("none is", x.listed(0), NONE);
        x.pass(5, 1, 2, 2);
        x.pass(1, 1, 2, 1);
        x.pass(3, 1, 2, 3);
        int[][] want = {{NONE, 1, 3, 5, NONE}, {NONE, 3, 5, NONE, NONE}, {NONE, 3, NONE, NONE, NONE},
            {NONE, NONE, NONE, NONE, NONE}};
        for (int[] now : want) {
            for (int k = -1; k <= 3; k++) {
                due("listed(" + k + ")", x.listed(k), now[k + 1]);
            }
            for (int k : new int[] {MIN, MIN + 1, MAX, -2, 256, 65536}) {
                due("listed(" + k + ")", x.listed(k), NONE);
            }
            x.tick(1);
        }
        Counted all = with(times(20, ROW));
        for (int k = 20; k >= 1; k--) {
            all.pass(k, 1, 2, 3600);
        }
        for (int k = 0; k <= 20; k++) {
            due("listed(" + k + ")", all.listed(k), k < 20 ? k + 1 : NONE);
        }
    }

    // ---- Promise 9

    private static void resetRefused() {
        says("A row is not latched any more: true. False, refused, when there is no such row, it is not latched, or is on.");
        Counted x = withOn("bar a0 when c0 for 2 latched; bar a1 when c0; bar a2 when c0 or c1 latched;", 0);
        for (int row : new int[] {0, -1, 4, 5, 257, MIN, MIN + 1, MAX}) {
            due("no such row " + row, x.reset(row), false);
        }
        x.tick(1);
        due("not latched yet, on", x.reset(1), false);
        x.tick(1);
        due("latched, on", x.reset(1), false);
        due("latched, on", x.reset(3), false);
        due("refused: latched", x.row(1, 4), 1);
        due("refused: latched", x.row(3, 4), 1);
        x.set(false, 0);
        x.set(true, 1);
        due("may not be latched", x.reset(2), false);
        due("latched, on by another condition", x.reset(3), false);
        due("latched, off, its count as it was", x.row(1, 3), 2);
        due("latched, off", x.reset(1), true);
        due("not latched any more", x.reset(1), false);
        due("only that row", x.row(3, 4), 1);
        x.set(false, 1);
        x.pass(3, 1, 2, 5);
        due("by-passed", x.reset(3), true);
        due("by-passed still", x.row(3, 5), 5);
        x.set(true, 0);
        x.tick(1);
        due("latched again behind a second", x.row(3, 4), 1);
        due("its count went on, for no second was off", x.row(1, 4), 1);
        due("no rows", new Counted().reset(1), false);
        Counted y = withOn("bar a0 when c0 for 2 latched;", 0);
        y.tick(2);
        y.set(false, 0);
        y.tick(1);
        y.set(true, 0);
        due("latched, on, but it does not hold", y.reset(1), false);
        due("refused: latched", y.row(1, 4), 1);
        y.set(false, 0);
        due("latched, off", y.reset(1), true);
    }
}
