/** Promises 4 and 14: THE PATTERN, its FAULTS, and what it MATCHES. */
public final class PatternTest {
    public static void main(String[] args) {
        atoms();
        faults();
        limits();
        theOneBeforeStays();
        matches();
        sets();
        places();
        Check.end("PatternTest");
    }

    private static void read(String pattern, int want) {
        TokenMachines m = new TokenMachines();
        Check.due("4: " + pattern, Check.pattern(m, pattern), want);
        Check.due("4: count of " + pattern, m.count(3), Math.max(0, want));
        Check.due("4: the tape is empty", m.count(2), 0);
    }

    private static void fault(String pattern, int place) {
        read(pattern, -10 - place);
    }

    private static void atoms() {
        read("", 0);
        read("abc", 3);
        read("|", 0);
        read("()", 0);
        read("()*(|)+(a)?", 1);
        read("a*b+c?", 3);
        read(".[abc][^x-z]\\*", 4);
        read("^-", 2);
        read("[[][\\]\\^\\-\\\\][*+?.()|]", 3);
        read("[\\a-\\c]", 1);
        read(" \t\n\u0000\u00ff", 5);
        read("\\\\", 1);
        read("{}$/'\"", 6);
    }

    private static void faults() {
        fault("*", 0);
        fault("a|*", 2);
        fault("(+)", 1);
        fault("a**", 2);
        fault("a*?", 2);
        fault("(a)+?", 4);
        fault("]", 0);
        fault("ab]c", 2);
        fault(")", 0);
        fault("(a))", 3);
        fault("(", 1);
        fault("(a", 2);
        fault("((a)|", 5);
        fault("\\", 1);
        fault("a\\", 2);
        fault("[", 1);
        fault("[^", 2);
        fault("[]", 1);
        fault("[^]", 2);
        fault("[^^]", 2);
        fault("[-a]", 1);
        fault("[a", 2);
        fault("[a-", 3);
        fault("[a-]", 3);
        fault("[a-^]", 3);
        fault("[a--]", 3);
        fault("[a-b-c]", 4);
        fault("[A-]", 3);
        fault("[A-^]", 3);
        fault("[!--]", 3);
        fault("[a^]", 2);
        fault("[b-a]", 3);
        fault("[b-a", 3);
        fault("[b-\\a]", 3);
        fault("[b-\\", 4);
        fault("[\\b-\\a]", 4);
        fault("[\\", 2);
        fault("[\\]", 3);
        fault("[\u00ff-a]", 3);
        fault("(a[b-a])*)**", 5);
    }

    private static void limits() {
        String sixty = "a".repeat(58) + ".[a-z]";
        read(sixty, 60);
        read("(" + sixty + ")*()", 60);
        read(sixty + "*|", 60);
        fault(sixty + "b", 64);
        fault(sixty + "*.", 65);
        fault(sixty + "()[", 66);
        fault(sixty + "\\", 64);
        fault(sixty + "\\x", 64);
        fault(sixty + "(|\\xb", 66);
        fault(sixty + "]", 64);
        String eight = "((((((((";
        read(eight + "a" + "))))))))", 1);
        fault(eight + "(a)))))))))", 8);
        fault("x" + eight + "a)((b))", 12);
        fault(eight, 8);
        read(eight + "))))))))" + eight + "))))))))", 0);
        read("()".repeat(150), 0);
        fault("a".repeat(300), 60);
    }

    private static void theOneBeforeStays() {
        TokenMachines m = Check.machine("aab");
        Check.pattern(m, "a+");
        Check.due("4: fault", Check.pattern(m, "[b]([x"), -16);
        Check.due("4: the tape is empty", m.count(2), 0);
        Check.due("4: atoms stay", m.count(3), 1);
        Check.due("4: matches stay", m.match(0), 2);
        m.tokens(3, 0, 0);
        Check.due("4: a new one", Check.pattern(m, "b"), 1);
        Check.due("4: the tokens stay", m.count(1), 1);
        Check.due("4: matches are new", m.match(0), 0);
        Check.due("4: at b", m.match(2), 1);
        Check.due("4: empty", m.pattern(), 0);
        Check.due("4: empty matches none", m.match(2), 0);
        Check.due("4: a third one", Check.pattern(m, "(ab|a)+"), 3);
        Check.due("4: a third one matches", m.match(0), 3);
        for (int i = 0; i < 3; i++) {
            Check.due("4: a row", Check.pattern(m, "[a]a*b"), 3);
            Check.due("4: a row matches", m.match(0), 3);
            Check.due("4: a fault behind a row", Check.pattern(m, "aab)"), -13);
        }
        for (int i = 0; i < 3; i++) {
            Check.due("4: nothing is left of others", Check.pattern(m, "b|a|b"), 3);
            Check.due("4: nothing else matches", m.match(0), 1);
        }
    }

    private static void match(String pattern, String text, int want) {
        TokenMachines m = Check.machine(text);
        Check.pattern(m, pattern);
        Check.due("14: " + pattern + " in " + text, m.match(0), want);
    }

    private static void matches() {
        match("a", "aa", 1);
        match("a*", "aaab", 3);
        match("a*", "b", 0);
        match("a+b", "aab", 3);
        match("a+b", "b", 0);
        match("a?b", "b", 1);
        match("a?b", "aab", 0);
        match("a|ab|abc", "abcd", 3);
        match("abc|ab|a", "abd", 2);
        match("(ab)*", "ababa", 4);
        match("(a*)*b", "aaab", 4);
        match("(a*b*)+", "abba!", 4);
        match("(a?)+", "aaa", 3);
        match("(|a)(|b)c", "abc", 3);
        match("(|a)(|b)c", "bc", 2);
        match("(|a)(|b)c", "c", 1);
        match("()", "a", 0);
        match("a()b", "ab", 2);
        match("a|", "ab", 1);
        match("(a)(b)", "aa", 0);
        match("(|a)(b)", "c", 0);
        match("(a|[ab])c", "ac", 2);
        match("(a|[ab])*c", "aac", 3);
        match("(a|b)*c|a", "ababd", 1);
        match("(a|b)*c|a", "ababc", 5);
        match(".*", "ab\tc", 2);
        match(".", " ", 0);
        match(".", "\r", 1);
        match(". .", "a b", 3);
        match("\\.\\*", ".*", 2);
        match("\\.", "a", 0);
        match("\\n", "n", 1);
        match("^-", "^-", 2);
        match("((a|b)+c?)+", "abcabca!", 7);
        match("(a(b(c(d(e(f(g(h)))))))+)*", "abcdefghabcdefgh", 16);
        match("A", "a", 0);
        match("a".repeat(60), "a".repeat(300), 60);
        match("(" + "a".repeat(60) + ")*", "a".repeat(299), 240);
        match("(a*)*", "a".repeat(300), 300);
    }

    private static void sets() {
        match("[abc]*", "cabd", 3);
        match("[a-c]*", "abcd", 3);
        match("[a-a]*", "aab", 2);
        match("[^a-c]*", "xy\n \u00ff\u0000b", 6);
        match("[^ ]+", "a\tb c", 3);
        match("[a-cx0-9]*", "a9x0-", 4);
        match("[\\]-a]*", "]^_`ab", 5);
        match("[\\^\\-\\]\\\\]*", "^-]\\a", 4);
        match("[\u0000-\u00ff]*", "\u0000a \u00ff", 4);
        match("[\u0080-\u00ff]*", "\u0080\u00ff\u007f", 2);
        match("[^\u0000-\u00ff]*", "a", 0);
        match("[[(*.]*", "[(*.a", 4);
        match("[aab]b", "bb", 2);
        match("[^aa]", "a", 0);
        match("[^a-ca-b]", "b", 0);
    }

    private static void places() {
        TokenMachines m = Check.machine("ab ab");
        Check.pattern(m, "b ?a?");
        Check.due("14: -1", m.match(-1), TokenMachines.BAD);
        Check.due("14: 5", m.match(5), TokenMachines.BAD);
        Check.due("14: far", m.match(Integer.MAX_VALUE), TokenMachines.BAD);
        Check.due("14: 0", m.match(0), 0);
        Check.due("14: 1", m.match(1), 3);
        Check.due("14: a blank", m.match(2), 0);
        Check.due("14: 4", m.match(4), 1);
        Check.due("14: no tokens come of it", m.count(1), 0);
    }
}
