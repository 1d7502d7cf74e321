/**
 * What the tests of boundary cases share. Each test says the sentence of the document that it is
 * about, which a failure prints, and holds its objects to the 512 calls that the document grants.
 */
abstract class Boundaries {
    static final int NONE = InterlockTables.NONE;
    static final int MIN = Integer.MIN_VALUE;
    static final int MAX = Integer.MAX_VALUE;
    static final int MOST_CALLS = 512;
    static final String ROW = "bar a0 when c0;";
    // No text goes on with it, wherever it stands.
    static final String WRONG = "?";

    private static int wrong = 0;
    private static String sentence = "";

    static void says(String words) {
        sentence = words;
    }

    static void due(String call, Object got, Object want) {
        if (!got.equals(want)) {
            wrong++;
            System.out.println("\"" + sentence + "\": " + call + " answered " + got + ", due is " + want);
        }
    }

    static void end() {
        System.out.println(wrong == 0 ? "boundaries hold" : wrong + " answers are wrong");
        if (wrong != 0) {
            System.exit(1);
        }
    }

    /** An object that counts its calls, and tells a test that needs more than 512. */
    static final class Counted {
        private final InterlockTables x = new InterlockTables();
        int calls;

        private InterlockTables call() {
            calls++;
            if (calls == MOST_CALLS + 1) {
                due("a test that makes more than 512 calls", true, false);
            }
            return x;
        }

        boolean unit(int u) {
            return call().unit(u);
        }

        int read() {
            return call().read();
        }

        boolean condition(int k, boolean on) {
            return call().condition(k, on);
        }

        boolean tick(int seconds) {
            return call().tick(seconds);
        }

        int act(int k) {
            return call().act(k);
        }

        int pass(int row, int personA, int personB, int seconds) {
            return call().pass(row, personA, personB, seconds);
        }

        int listed(int k) {
            return call().listed(k);
        }

        boolean reset(int row) {
            return call().reset(row);
        }

        int test(int k) {
            return call().test(k);
        }

        int row(int k, int what) {
            return call().row(k, what);
        }

        int write(int i) {
            return call().write(i);
        }

        void clear() {
            call().clear();
        }

        void feed(String text) {
            for (int i = 0; i < text.length(); i++) {
                due("unit(" + (int) text.charAt(i) + ")", unit(text.charAt(i)), true);
            }
        }

        int read(String text) {
            feed(text);
            return read();
        }

        void set(boolean on, int... conditions) {
            for (int k : conditions) {
                condition(k, on);
            }
        }

        String written() {
            StringBuilder all = new StringBuilder();
            writeBehind(all);
            return all.toString();
        }

        /** Whether the bytes that were missing have come, all of them, before the calls ended. */
        boolean writeBehind(StringBuilder all) {
            while (calls < MOST_CALLS) {
                int b = write(all.length());
                if (b == NONE) {
                    return true;
                }
                all.append((char) b);
            }
            return false;
        }

        /** All that rows have, how many acts they bar, and what is listed and tested of them. */
        String state() {
            StringBuilder all = new StringBuilder();
            for (int k = 1; row(k, 0) != NONE && calls <= MOST_CALLS; k++) {
                for (int what = 0; what <= 7; what++) {
                    all.append(row(k, what)).append(' ');
                }
            }
            for (int k = 0; k < 4; k++) {
                all.append(act(k)).append(' ').append(listed(k)).append(' ').append(test(k)).append(' ');
            }
            return all.append(written()).toString();
        }
    }

    static Counted with(String text) {
        Counted x = new Counted();
        due("read of a good text " + text, x.read(text) >= 0, true);
        return x;
    }

    static Counted withOn(String text, int... on) {
        Counted x = with(text);
        x.set(true, on);
        return x;
    }

    /** What is written of a text's rows, by as many objects as it takes with 512 calls each. */
    static String writtenOf(String text) {
        StringBuilder all = new StringBuilder();
        boolean ended = false;
        for (int objects = 0; objects < 100 && !ended; objects++) {
            ended = with(text).writeBehind(all);
        }
        return all.toString();
    }

    static String shown(String text) {
        return text.replace("\n", "\\n");
    }

    static void dueRows(String text, int rows) {
        due("read of " + shown(text), new Counted().read(text), rows);
    }

    /** The word is the number of the first wrong one, from 0. */
    static void dueWrong(String text, int word) {
        dueRows(text, -1 - word);
    }

    static void dueGood(boolean good, String text, int word) {
        dueRows(text, good ? 1 : -1 - word);
    }

    static String times(int n, String text) {
        return text.repeat(n);
    }

    /** So many numbers from 0, each of them between two texts. */
    static String each(int count, String before, String behind) {
        StringBuilder all = new StringBuilder();
        for (int k = 0; k < count; k++) {
            all.append(before).append(k).append(behind);
        }
        return all.toString();
    }
}
