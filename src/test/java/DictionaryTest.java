/** Promises 5 and 13, and way 7 of promise 9: WORDS and the cheapest way. */
public final class DictionaryTest {
    public static void main(String[] args) {
        words();
        full();
        costs();
        ties();
        Check.end("DictionaryTest");
    }

    private static void words() {
        TokenMachines m = new TokenMachines();
        Check.due("5: the first one", Check.word(m, "the", 30), 0);
        Check.due("5: the tape is empty", m.count(2), 0);
        Check.due("5: the next one", Check.word(m, "th", 1000), 1);
        Check.due("5: again", Check.word(m, "the", 5), TokenMachines.NO);
        Check.due("5: empty after NO", m.count(2), 0);
        Check.due("5: NO changes no cost", Check.give(m, "the"), 3);
        Check.due("5: NO changes no cost", m.cost(0), 30);
        Check.due("5: no SIGN", m.word(5), TokenMachines.BAD);
        Check.due("5: 13 SIGNS", Check.word(m, "abcdefghijklm", 5), TokenMachines.BAD);
        Check.due("5: empty after BAD", m.count(2), 0);
        Check.due("5: 12 SIGNS", Check.word(m, "abcdefghijkl", 5), 2);
        Check.due("5: a space", Check.word(m, "a b", 5), TokenMachines.BAD);
        Check.due("5: a tab", Check.word(m, "\ta", 5), TokenMachines.BAD);
        Check.due("5: a line", Check.word(m, "a\n", 5), TokenMachines.BAD);
        Check.due("5: cost 0", Check.word(m, "q", 0), TokenMachines.BAD);
        Check.due("5: cost 1001", Check.word(m, "q", 1001), TokenMachines.BAD);
        Check.due("5: BAD ahead of NO", Check.word(m, "the", 0), TokenMachines.BAD);
        Check.due("5: empty after BAD", m.count(2), 0);
        Check.due("5: other signs", Check.word(m, "\u0000\u00ff-\r", 1), 3);
        Check.due("5: the same other signs", Check.word(m, "\u0000\u00ff-\r", 1), TokenMachines.NO);
        Check.due("5: large letters", Check.word(m, "THE", 1), 4);
        Check.due("5: how many", m.count(4), 5);
    }

    private static void full() {
        TokenMachines m = Check.machine("ab");
        m.tokens(7, 0, 0);
        for (int i = 0; i < 40; i++) {
            Check.due("5: one of 40", Check.word(m, "w" + (char) (48 + i), 10 + i), i);
        }
        Check.due("5: the 41st", Check.word(m, "ab", 5), TokenMachines.FULL);
        Check.due("5: empty after FULL", m.count(2), 0);
        Check.due("5: NO ahead of FULL", Check.word(m, "w0", 5), TokenMachines.NO);
        Check.due("5: BAD ahead of FULL", Check.word(m, "ab", 1001), TokenMachines.BAD);
        Check.due("5: FULL changes nothing", m.count(4), 40);
        Check.due("5: ab is none", m.cost(0), 200);
        Check.due("5: the tokens stay", m.count(1), 1);
        Check.give(m, "w0wW");
        Check.due("5: the first and the last one", m.cost(0), 59);
    }

    private static void costs() {
        TokenMachines m = Check.machine("thecat \tx\n");
        Check.word(m, "the", 30);
        Check.word(m, "cat", 31);
        Check.word(m, "hec", 1);
        for (int place = 0; place < 6; place++) {
            Check.due("13: in the row", m.cost(place), 61);
        }
        Check.due("13: a space", m.cost(6), TokenMachines.NO);
        Check.due("13: a tab", m.cost(7), TokenMachines.NO);
        Check.due("13: one sign", m.cost(8), 100);
        Check.due("13: a line", m.cost(9), TokenMachines.NO);
        Check.due("13: 10", m.cost(10), TokenMachines.BAD);
        Check.due("13: -1", m.cost(-1), TokenMachines.BAD);
        Check.due("13: far", m.cost(Integer.MIN_VALUE), TokenMachines.BAD);
        m.strange(19);
        Check.due("13: strange ones are cheap", m.cost(3), 50 + 8);
        m.strange(1);
        Check.due("13: cheaper", m.cost(3), 4);
        Check.due("13: the word alone", Check.word(m, "x", 50), 3);
        Check.due("13: the lesser of both", m.cost(8), 1);
        m.strange(60);
        Check.due("13: the lesser is the word", m.cost(8), 50);
        Check.give(m, "e".repeat(300));
        m.strange(1000);
        Check.due("13: the largest sum", m.cost(299), 300000);
        Check.give(m, "th e");
        Check.due("13: words end at the row's end", m.cost(0), 2000);
    }

    private static void best(String text, String want, String... words) {
        TokenMachines m = Check.machine(text);
        for (String word : words) {
            String[] parts = word.split("=");
            Check.word(m, parts[0], Integer.parseInt(parts[1]));
        }
        m.tokens(7, 0, 0);
        Check.due("9: way 7 of " + text, Check.brief(m), want);
    }

    private static void ties() {
        best("abc", "abc@0", "abc=90", "a=30", "b=30", "c=30");
        best("abc", "a@0 b@1 c@2", "abc=91", "a=30", "b=30", "c=30");
        best("abc", "ab@0 c@1", "a=40", "bc=60", "ab=60", "c=40");
        best("abc", "ab@0 c@1", "ab=60", "c=40", "bc=60", "a=40");
        best("abc", "a@0 bc@1", "a=40", "bc=60", "ab=61", "c=40");
        best("abcd", "abc@0 d@1", "a=50", "bcd=50", "ab=50", "cd=50", "abc=50", "d=50");
        best("abcdef", "ab@0 cde@1 f@2", "ab=20", "cd=20", "ef=20", "cde=20", "f=20", "a=25", "bc=1", "def=100");
        best("abcabc", "abc@0 abc@1", "abc=100", "abcabc=201");
        best("abcabc", "abcabc@0", "abc=100", "abcabc=200");
        best("ab", "ab@0", "ab=200");
        best("ab", "ab@0", "ab=201");
        best("ab", "a@0 b@1", "ab=201", "a=500");
        best("xaby", "x@0 ab@1 y@2", "ab=1");
        best("xxab xx", "xx@0 ab@1 xx@2", "ab=1");
        best("aXb", "a@0 X@1 b@2", "a=1", "b=1000");
        best("abcdefghijklm", "abcdefghijkl@0 m@1", "abcdefghijkl=1");
    }
}
