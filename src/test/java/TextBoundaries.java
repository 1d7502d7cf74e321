import java.math.BigInteger;
import java.util.ArrayList;
import java.util.List;

/** Boundary cases of texts, words and wrong words, and of promises 2 and 3. */
public final class TextBoundaries extends Boundaries {
    public static void main(String[] args) {
        conditionsAndActs();
        bytesThatPartWords();
        bytesThatAreWords();
        wordsInARow();
        keywords();
        numbersOfActs();
        numbersOfConditions();
        numbersOfSeconds();
        digits();
        theEnd();
        wordsThatGoOn();
        anActTwice();
        theNinthAct();
        theThirtyThirdCondition();
        twentyOpen();
        notUpToTheEndOfItsPart();
        bracketUpToItsEnd();
        unitOneTo127();
        unitBehindTheText();
        readEmpty();
        readIsEmptyThen();
        readBeginsAnew();
        readFirstWrongWord();
        readWrongKeepsRows();
        end();
    }

    // ---- Terms: texts

    private static void conditionsAndActs() {
        says("CONDITIONS are c0 .. c15, on or off; ACTS are a0 .. a31.");
        Counted conditions = with(each(16, "bar a0 when c", ";"));
        for (int k = 0; k < 16; k++) {
            due("row off " + k, conditions.row(k + 1, 7), 0);
            conditions.condition(k, true);
            due("row on " + k, conditions.row(k + 1, 7), 1);
            due("the next row " + k, conditions.row(k + 2, 7), k == 15 ? NONE : 0);
        }
        for (int from = 0; from < 32; from += 8) {
            StringBuilder text = new StringBuilder("bar");
            for (int k = from; k < from + 8; k++) {
                text.append(" a").append(k);
            }
            Counted acts = withOn(text + " when c0;", 0);
            for (int k = -1; k <= 32; k++) {
                int want = k < 0 || k > 31 ? NONE : k >= from && k < from + 8 ? 1 : 0;
                due("act(" + k + ") of " + text, acts.act(k), want);
            }
        }
    }

    private static void bytesThatPartWords() {
        says("a word is a run of bytes that are none of these, and neither 32 nor 10");
        for (int b = 1; b <= 127; b++) {
            String text = "bar a0" + (char) b + "when c0;";
            boolean alone = b == '(' || b == ')' || b == ';';
            boolean parts = b == ' ' || b == '\n';
            if (parts) {
                dueRows(text, 1);
            } else {
                dueWrong(text, alone ? 2 : 1);
            }
        }
        for (int b : new int[] {1, 9, 11, 12, 13, 31, 33, 126, 127}) {
            dueWrong((char) b + ROW, 0);
            dueWrong(ROW + (char) b, 5);
            dueWrong(ROW + " " + (char) b + " " + ROW, 5);
        }
    }

    private static void bytesThatAreWords() {
        says("each of ( ) ; is a word");
        dueRows("bar a0 when((c0)and(not(c1)));bar a0 when(c0);", 2);
        dueWrong("bar a0 when((c0)and(not(c1)));bar a0 when(c0)?", 22);
        dueWrong("((", 0);
        dueWrong("bar a0 when ((c0;", 6);
        dueWrong("bar a0 when ((c0)));", 8);
        dueWrong("bar a0 when ((c0)))", 8);
        dueWrong(ROW + ";;", 5);
        dueWrong("bar a0(when c0;", 2);
        dueWrong("bar(a0 when c0;", 1);
        dueWrong("bar a0;when c0;", 2);
        // The neighbours of the three bytes are bytes of words as others are.
        for (int b : new int[] {'\'', '*', ':', '<'}) {
            dueWrong("bar a0 when" + (char) b + "c0;", 2);
            dueWrong("bar a0 when c0" + (char) b, 3);
        }
    }

    private static void wordsInARow() {
        says("text: row*. row: bar act act* when or [for number] [latched] ;");
        for (int rows = 0; rows <= 34; rows++) {
            dueRows(times(rows, ROW), rows);
        }
        for (String blank : new String[] {" ", "\n", "\n \n", "     "}) {
            dueRows(blank, 0);
            dueRows(blank + "bar" + blank + "a0" + blank + "when" + blank + "c0" + blank + ";" + blank, 1);
        }
        for (String behind : new String[] {"", " for 2", " latched", " for 2 latched"}) {
            dueRows("bar a0 when c0" + behind + ";", 1);
            Counted x = with("bar a0 when c0" + behind + ";");
            due("seconds" + behind, x.row(1, 1), behind.contains("for") ? 2 : 0);
            due("latched" + behind, x.row(1, 2), behind.contains("latched") ? 1 : 0);
        }
        dueWrong("bar a0 when c0 latched for 2;", 5);
        dueWrong("bar a0 when c0 for 2 for 2;", 6);
        dueWrong("bar a0 when c0 latched latched;", 5);
        dueWrong("bar a0 when c0 for 2 latched latched;", 7);
    }

    private static void keywords() {
        says("bar act act* when or [for number] [latched] ; .. the word or .. the word and .. not part");
        String text = "bar a0 when c0 or c1 and not c2 for 2 latched;";
        String[] words = text.replace(";", " ;").split(" ");
        dueRows(text, 1);
        for (int i = 0; i < words.length; i++) {
            if (!words[i].matches("bar|when|or|and|not|for|latched")) {
                continue;
            }
            String word = words[i];
            String[] others = {word.substring(1), word.substring(0, word.length() - 1), word + "x", "x" + word,
                word.toUpperCase(), word.substring(0, 1).toUpperCase() + word.substring(1), word + word,
                word.substring(0, word.length() - 1) + "x", "x" + word.substring(1), word + "0"};
            for (String other : others) {
                if (word.equals("for") && other.equals("or")) {
                    continue;
                }
                List<String> spoilt = new ArrayList<>(List.of(words));
                spoilt.set(i, other);
                dueWrong(String.join(" ", spoilt), i);
            }
        }
    }

    /** Digits that would be a number of the range if they wrapped around, or if zeros were skipped. */
    private static List<String> noNumbers(int most) {
        List<String> all = new ArrayList<>(List.of("00", "01", "000", "-0", "-1", "+0", "+1", "0x1", "1x", "x1", "1.0",
            "1_0", "1,0", "0" + most, "00" + most, most + "0", most + "-", "" + MAX, "2147483648", "" + Long.MAX_VALUE,
            "9223372036854775808", "99999999999999999999"));
        for (int n : new int[] {0, 1, most}) {
            for (String wrap : new String[] {"256", "65536", "4294967296", "18446744073709551616"}) {
                String past = new BigInteger(wrap).add(BigInteger.valueOf(n)).toString();
                if (past.length() > 4 || Integer.parseInt(past) > most) {
                    all.add(past);
                }
            }
        }
        return all;
    }

    private static void numbersOfActs() {
        says("An act is a and a number 0 .. 31 (digits, the first no 0 unless it is alone)");
        for (int n = 0; n <= 400; n++) {
            dueGood(n <= 31, "bar a" + n + " when c0;", 1);
            dueGood(n <= 31 && n != 5, "bar a5 a" + n + " when c0;", 2);
            if (n <= 31) {
                due("act", withOn("bar a" + n + " when c0;", 0).act(n), 1);
            }
        }
        for (int n = 0; n <= 31; n++) {
            dueWrong("bar a0" + n + " when c0;", 1);
        }
        for (String number : noNumbers(31)) {
            dueWrong("bar a" + number + " when c0;", 1);
        }
        for (String word : new String[] {"a", "aa1", "A1", "b1", "c1", "1", "`1"}) {
            dueWrong("bar " + word + " when c0;", 1);
        }
        dueWrong("bar a 1 when c0;", 1);
    }

    private static void numbersOfConditions() {
        says("a condition c and a number 0 .. 15 (digits, the first no 0 unless it is alone)");
        for (int n = 0; n <= 400; n++) {
            dueGood(n <= 15, "bar a0 when c" + n + ";", 3);
            dueGood(n <= 15, "bar a0 when c1 or not (c" + n + ");", 7);
            if (n <= 15) {
                due("row on", withOn("bar a0 when c" + n + ";", n).row(1, 7), 1);
            }
        }
        for (int n = 0; n <= 15; n++) {
            dueWrong("bar a0 when c0" + n + ";", 3);
        }
        for (String number : noNumbers(15)) {
            dueWrong("bar a0 when c" + number + ";", 3);
        }
        for (String word : new String[] {"c", "cc1", "C1", "b1", "d1", "a1", "1"}) {
            dueWrong("bar a0 when " + word + ";", 3);
        }
        dueWrong("bar a0 when c 1;", 3);
    }

    private static void numbersOfSeconds() {
        says("a number is digits, 0 .. 3,600 (the first no 0 unless it is alone)");
        for (int n = 0; n <= 4000; n++) {
            Counted x = new Counted();
            due("for " + n, x.read("bar a0 when c0 for " + n + ";"), n <= 3600 ? 1 : -6);
            due("seconds of for " + n, x.row(1, 1), n <= 3600 ? n : NONE);
        }
        for (int n = 0; n <= 3600; n += 9) {
            dueWrong("bar a0 when c0 for 0" + n + ";", 5);
        }
        for (String number : noNumbers(3600)) {
            dueWrong("bar a0 when c0 for " + number + ";", 5);
            dueWrong("bar a0 when c0 for " + number + " latched;", 5);
        }
        for (String word : new String[] {"a1", "c1", "n1", "x"}) {
            dueWrong("bar a0 when c0 for " + word + ";", 5);
        }
        dueWrong("bar a0 when c0 for;", 5);
    }

    private static void digits() {
        says("(digits, the first no 0 unless it is alone)");
        for (int b = 33; b <= 127; b++) {
            if (b == '(' || b == ')' || b == ';') {
                continue;
            }
            boolean digit = b >= '0' && b <= '9';
            char c = (char) b;
            dueGood(digit, "bar a" + c + " when c0;", 1);
            dueGood(digit, "bar a1" + c + " when c0;", 1);
            dueWrong("bar a0" + c + " when c0;", 1);
            dueGood(digit, "bar a0 when c" + c + ";", 3);
            dueGood(digit && c <= '5', "bar a0 when c1" + c + ";", 3);
            dueWrong("bar a0 when c0" + c + ";", 3);
            dueGood(digit, "bar a0 when c0 for " + c + ";", 5);
            dueGood(digit, "bar a0 when c0 for 100" + c + ";", 5);
            dueGood(digit && c != '0', "bar a0 when c0 for " + c + "00;", 5);
            dueWrong("bar a0 when c0 for 0" + c + ";", 5);
        }
    }

    // ---- Terms: wrong words

    private static void theEnd() {
        says("A WORD IS WRONG when no text goes on with it (the end, too)");
        String text = "bar a0 a1 when ( c0 or not c1 ) and c2 for 2 latched ;";
        String[] words = text.split(" ");
        String begun = "";
        for (int i = 0; i <= words.length; i++) {
            if (i == 0 || i == words.length) {
                dueRows(begun, i == 0 ? 0 : 1);
                dueRows(ROW + begun, i == 0 ? 1 : 2);
            } else {
                dueWrong(begun, i);
                dueWrong(begun + "\n", i);
                dueWrong(ROW + begun, 5 + i);
                dueWrong(begun + " " + ROW, i);
            }
            begun += i < words.length ? " " + words[i] : "";
        }
    }

    private static void wordsThatGoOn() {
        says("A WORD IS WRONG when no text goes on with it");
        String part = "c1 not ( ";
        String open = "or and ) ";
        String closed = "or and for latched ; ";
        String[][] goesOn = {
            {"", "bar "},
            {"bar ", "a1 "},
            {"bar a0 ", "a1 when "},
            {"bar a0 when ", part},
            {"bar a0 when not ", part},
            {"bar a0 when ( ", part},
            {"bar a0 when c0 ", closed},
            {"bar a0 when not c0 ", closed},
            {"bar a0 when not not c0 ", closed},
            {"bar a0 when c0 or ", part},
            {"bar a0 when c0 and ", part},
            {"bar a0 when c0 and not ", part},
            {"bar a0 when c0 or c1 ", closed},
            {"bar a0 when c0 and c1 ", closed},
            {"bar a0 when ( c0 ", open},
            {"bar a0 when ( not c0 ", open},
            {"bar a0 when ( c0 and ", part},
            {"bar a0 when ( c0 or ", part},
            {"bar a0 when ( c0 or c1 ", open},
            {"bar a0 when ( c0 ) ", closed},
            {"bar a0 when not ( c0 ) ", closed},
            {"bar a0 when ( ( c0 ) ", open},
            {"bar a0 when ( ( c0 ) ) ", closed},
            {"bar a0 when ( c0 ) and ( c1 ", open},
            {"bar a0 when c0 for ", "7 "},
            {"bar a0 when c0 for 2 ", "latched ; "},
            {"bar a0 when c0 for 2 latched ", "; "},
            {"bar a0 when c0 latched ", "; "},
            {"bar a0 when c0 ; ", "bar "},
            {"bar a0 when c0 for 2 ; ", "bar "},
            {"bar a0 when c0 latched ; ", "bar "},
        };
        String[] candidates = {"bar", "a1", "a32", "when", "c1", "c16", "not", "(", ")", "or", "and", "for", "7", "3601",
            "latched", ";", WRONG};
        for (String[] pair : goesOn) {
            int words = pair[0].isEmpty() ? 0 : pair[0].split(" ").length;
            for (String candidate : candidates) {
                boolean good = pair[1].contains(candidate + " ");
                dueWrong(pair[0] + candidate + " " + WRONG, good ? words + 1 : words);
                dueWrong(ROW + pair[0] + candidate + " " + WRONG, 5 + (good ? words + 1 : words));
            }
        }
    }

    private static void anActTwice() {
        says("an act that its row has already");
        for (int n = 0; n <= 31; n++) {
            int other = (n + 1) % 32;
            dueWrong("bar a" + n + " a" + n + " when c0;", 2);
            dueRows("bar a" + n + " a" + other + " when c0;", 1);
            dueWrong("bar a" + n + " a" + other + " a" + n + " when c0;", 3);
            dueRows("bar a" + n + " when c0; bar a" + n + " when c0;", 2);
            dueWrong("bar a" + n + " when c0; bar a" + n + " a" + n + " when c0;", 7);
        }
        for (int n = 0; n < 8; n++) {
            dueWrong("bar" + each(7, " a", "") + " a" + n + (n < 7 ? "" : " a0") + " when c0;", n < 7 ? 8 : 9);
        }
        // An act that a row had which was not taken is new in the next text.
        Counted x = new Counted();
        due("read", x.read("bar a1 a2 when"), -5);
        due("read", x.read("bar a1 a2 when c0;"), 1);
    }

    private static void theNinthAct() {
        says("or would be the ninth one");
        for (int acts = 0; acts <= 12; acts++) {
            String text = "bar" + each(acts, " a", "") + " when c0;";
            if (acts >= 1 && acts <= 8) {
                dueRows(text, 1);
                due("acts", with(text).row(1, 0), acts);
                dueRows(text + text, 2);
            } else {
                dueWrong(text, acts == 0 ? 1 : 9);
                dueWrong(ROW + text, acts == 0 ? 6 : 14);
            }
        }
        String eight = "bar a31 a30 a29 a28 a27 a26 a25 a24";
        dueWrong(eight + " a31 when c0;", 9);
        dueWrong(eight + " a32 when c0;", 9);
        dueWrong(eight + " c0 when c0;", 9);
        dueWrong(eight, 9);
        Counted x = withOn(eight + " when c0; bar a23 when c0;", 0);
        due("the eighth act is barred", x.act(24), 1);
        due("the next row's act", x.act(23), 2);
    }

    private static void theThirtyThirdCondition() {
        says("a condition that would be the 33rd of its row");
        for (String join : new String[] {" or ", " and "}) {
            for (int n = 1; n <= 36; n++) {
                String text = "bar a0 when c0" + times(n - 1, join + "c1") + ";";
                dueGood(n <= 32, text, 3 + 64);
                due("conditions", n <= 32 ? with(text).row(1, 6) : n, n);
            }
        }
        String full = "bar a0 when c0" + times(31, " or c0");
        dueRows(full + ";" + full + ";", 2);
        dueWrong(full + ";" + full + " or c0;", 67 + 67);
        dueRows(full + ";" + ROW, 2);
        // What stands before the 33rd goes on: the texts that the grammar has know no end.
        dueWrong(full + " or", 3 + 64);
        dueWrong(full + " or ?", 3 + 64);
        dueWrong(full + " or not c0;", 3 + 65);
        dueWrong(full + " or (c0);", 3 + 65);
        dueWrong(full + " and not (not c0);", 3 + 67);
        String bracketed = "bar a0 when (c0" + times(15, " and c1") + ") or (not c0" + times(15, " and not c1");
        dueRows(bracketed + ");", 1);
        int words = 3 + 1 + 31 + 3 + 47;
        dueWrong(bracketed + " and c2);", words + 1);
        dueWrong(bracketed + ") or c2;", words + 2);
    }

    private static void twentyOpen() {
        says("a not or ( with which more than 20 of these are open");
        for (int nots = 0; nots <= 22; nots++) {
            for (int brackets = 0; brackets <= 22; brackets++) {
                boolean good = nots + brackets <= 20;
                String close = times(brackets, ")");
                dueGood(good, "bar a0 when " + times(nots, "not ") + times(brackets, "(") + "c0" + close + ";", 23);
                dueGood(good, "bar a0 when " + times(brackets, "(") + times(nots, "not ") + "c0" + close + ";", 23);
                if (nots == brackets) {
                    dueGood(good, "bar a0 when " + times(nots, "not(") + "c0" + close + ";", 23);
                    dueGood(good, "bar a0 when " + times(nots, "(not ") + "c0" + close + ";", 23);
                }
            }
        }
        dueWrong("bar a0 when " + times(21, "not "), 23);
        dueWrong("bar a0 when " + times(20, "not "), 23);
        dueWrong("bar a0 when " + times(20, "("), 23);
        dueWrong("bar a0 when " + times(20, "(") + ";", 23);
        dueRows(ROW + "bar a0 when " + times(20, "(") + "c0" + times(20, ")") + ";", 2);
        dueWrong(ROW + "bar a0 when " + times(21, "(") + "c0" + times(21, ")") + ";", 5 + 23);
    }

    private static void notUpToTheEndOfItsPart() {
        says("(a not up to the end of its part)");
        for (String join : new String[] {" and ", " or "}) {
            for (int n = 19; n <= 21; n++) {
                // The nots of the first part are open no more.
                dueGood(n <= 20, "bar a0 when not not c0" + join + times(n, "not ") + "c1;", 6 + 1 + 20);
                dueGood(n <= 20, "bar a0 when " + times(20, "not ") + "c0" + join + times(n, "not ") + "c1;", 25 + 20);
                dueGood(n <= 20, "bar a0 when not (c0)" + join + times(n, "(") + "c1" + times(n, ")") + ";", 8 + 20);
                dueGood(n <= 20, "bar a0 when not not (not c0)" + join + times(n, "not ") + "c1;", 10 + 20);
                // The bracket of both is open still.
                dueGood(n <= 19, "bar a0 when (not c0" + join + times(n, "not ") + "c1);", 7 + 19);
                // A not before a bracket is open up to the bracket's end.
                dueGood(n <= 18, "bar a0 when not (c0" + join + times(n, "not ") + "c1);", 7 + 18);
                dueGood(n <= 18, "bar a0 when not (not c0" + join + times(n, "(") + "c1" + times(n, ")") + ");", 8 + 18);
            }
            for (int n = 17; n <= 19; n++) {
                dueGood(n <= 18, "bar a0 when not (c0" + join + times(n, "not ") + "c1);", 7 + 18);
                dueGood(n <= 17, "bar a0 when not not (c0" + join + times(n, "not ") + "c1);", 8 + 17);
            }
        }
    }

    private static void bracketUpToItsEnd() {
        says("more than 20 of these are open (a bracket up to its end)");
        for (int n = 18; n <= 21; n++) {
            String deep = times(n, "(") + "c1" + times(n, ")");
            dueGood(n <= 20, "bar a0 when (c0) and " + deep + ";", 7 + 20);
            dueGood(n <= 20, "bar a0 when " + times(20, "(") + "c0" + times(20, ")") + " or " + deep + ";", 3 + 42 + 20);
            dueGood(n <= 19, "bar a0 when ((c0) and " + deep + ");", 8 + 19);
            dueGood(n <= 18, "bar a0 when ((c0 and " + deep + "));", 7 + 18);
            dueGood(n <= 19, "bar a0 when ((not c0) or " + deep + ");", 9 + 19);
        }
    }

    // ---- Promise 2

    private static void unitOneTo127() {
        says("A byte (1 .. 127) comes behind the text: true. False, refused, for another one");
        Counted all = new Counted();
        for (int u = -130; u <= 260; u++) {
            due("unit(" + u + ")", all.unit(u), u >= 1 && u <= 127);
        }
        Counted x = new Counted();
        int[] refused = {0, -1, 128, 129, 255, 256, 256 + 'x', -256 + 'x', 65536 + 'x', -128, -127, MIN, MIN + 'x', MAX};
        for (int i = 0; i < ROW.length(); i++) {
            due("unit(" + refused[i % refused.length] + ")", x.unit(refused[i % refused.length]), false);
            x.unit(ROW.charAt(i));
        }
        due("unit(0)", x.unit(0), false);
        due("nothing came behind the text", x.read(), 1);
        due("nothing came behind the text", x.written(), ROW + "\n");
        Counted none = new Counted();
        for (int u : refused) {
            none.unit(u);
        }
        due("no word came", none.read(), 0);
        for (int u : new int[] {1, 127}) {
            none.unit(u);
            due("a wrong word came", none.read(), -1);
        }
    }

    private static void unitBehindTheText() {
        says("A byte comes behind the text");
        Counted x = new Counted();
        x.feed("bar a1 when c0 for 3");
        due("rows are as they were", x.row(1, 0), NONE);
        x.feed("60");
        x.feed("0;");
        due("read", x.read(), 1);
        due("all bytes are in order", x.row(1, 1), 3600);
    }

    // ---- Promise 3

    private static void readEmpty() {
        says("The text is read: how many rows there are (none in an empty text)");
        for (String text : new String[] {"", " ", "\n", " \n \n"}) {
            Counted x = with(ROW + ROW);
            due("read", x.read(text), 0);
            due("no rows", x.row(1, 0), NONE);
            due("nothing to write", x.write(0), NONE);
            due("again", x.read(), 0);
        }
    }

    private static void readIsEmptyThen() {
        says("The text is read, and is empty then");
        Counted x = new Counted();
        due("a good text", x.read(ROW), 1);
        due("read again", x.read(), 0);
        due("a wrong text", x.read("bar a0 when"), -4);
        due("what is missing does not go on with it", x.read("c0;"), -1);
        due("a wrong text again", x.read("bar"), -2);
        due("read again", x.read(), 0);
        due("a good text again", x.read(ROW), 1);
    }

    private static void readBeginsAnew() {
        says("all they have (counts, latches, by-passes) begins anew, conditions stay");
        String text = "bar a0 when c0 latched; bar a1 when c0 for 2;";
        Counted x = withOn(text, 0, 15);
        String before = x.state();
        x.tick(2);
        x.pass(1, 1, 2, 3600);
        due("something has gone by", x.state().equals(before), false);
        due("read of the same text", x.read(text), 2);
        due("state", x.state(), before);
        due("condition 0", x.condition(0, true), false);
        due("condition 15", x.condition(15, true), false);
        due("condition 1", x.condition(1, false), false);
    }

    private static void readFirstWrongWord() {
        says("When a word is wrong: -1 minus the number of the first one, from 0");
        dueWrong(WRONG, 0);
        dueWrong("bar " + WRONG, 1);
        dueWrong("bar ? ? ?", 1);
        dueWrong("bar a0 a0 a0", 2);
        dueWrong("bar a0 when c16 for 3601;", 3);
        dueWrong("bar a0 when c0 for 3601 ? ;", 5);
        for (int rows = 0; rows <= 31; rows++) {
            dueWrong(times(rows, ROW) + WRONG + " " + ROW, 5 * rows);
            dueWrong(times(rows, ROW) + "bar a0 when c0;;" + ROW, 5 * rows + 5);
        }
        dueWrong(times(505, "("), 0);
        dueWrong("bar a0 when " + times(240, "; "), 3);
    }

    private static void readWrongKeepsRows() {
        says("the rows that were there stay");
        Counted x = withOn("bar a0 when c0 latched; bar a1 when c0 for 9;", 0);
        x.tick(3);
        x.pass(2, 1, 2, 50);
        String before = x.state();
        due("no row behind a first one that is good", x.read("bar a3 when c1;?"), -6);
        due("state", x.state(), before);
        due("a text that breaks off", x.read("bar a3 when c1"), -5);
        due("state", x.state(), before);
        x.tick(1);
        due("the count goes on", x.row(2, 3), 4);
        due("the by-pass goes on", x.row(2, 5), 49);
        Counted none = new Counted();
        due("no rows before", none.read(ROW + WRONG), -6);
        due("none then", none.row(1, 0), NONE);
    }
}
