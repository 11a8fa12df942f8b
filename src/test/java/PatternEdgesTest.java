/** The document's "Terms", 2: each sentence on THE PATTERN and THE FAULT that names a boundary case. */
public final class PatternEdgesTest {
    private static final String SPECIAL = "|*+?.[]()\\";
    private static final String SPECIAL_IN_SET = "]\\^-";

    public static void main(String[] args) {
        choices();
        emptyRows();
        oneMarkAPiece();
        eachSignThatIsNoBlank();
        eachSignAsAnAtom();
        anySignBehindABackslash();
        oneOrMoreInASet();
        eachSignInASet();
        eachSignAsTheOtherEnd();
        fromTo();
        noneOfThese();
        howOften();
        sixtyAtoms();
        whatIsNoAtom();
        withinSevenOthers();
        faultsAtASign();
        faultsOfRanges();
        faultsAtTheLength();
        firstOfSeveralFaults();
        Check.end("PatternEdgesTest");
    }

    private static String quoted(int sign) {
        return "" + (char) sign;
    }

    private static void read(String pattern, int want) {
        TokenMachines m = new TokenMachines();
        Check.due("4: " + pattern, Check.pattern(m, pattern), want);
        Check.due("4: ATOMS of " + pattern, m.count(3), Math.max(0, want));
    }

    private static void fault(String pattern, int place) {
        read(pattern, -10 - place);
    }

    private static void match(String pattern, String text, int want) {
        TokenMachines m = Check.machine(text);
        Check.pattern(m, pattern);
        Check.due("14: " + pattern + " on " + text, m.match(0), want);
    }

    /** "ANY: ROW | ROW | .." */
    private static void choices() {
        match("a|b|c", "a", 1);
        match("a|b|c", "b", 1);
        match("a|b|c", "c", 1);
        match("a|b|c", "d", 0);
        match("ab|cd", "ab", 2);
        match("ab|cd", "cd", 2);
        match("ab|cd", "abd", 2);
        match("ab|cd", "acd", 0);
        match("(ab|c)d", "abd", 3);
        match("(ab|c)d", "cd", 2);
        match("(a)(b)", "aa", 0);
        match("(|a)(b)", "c", 0);
        match("(a|b)(c)", "ab", 0);
        match("((a)|b)c", "bc", 2);
    }

    /** "ROW: PIECES, none or more" */
    private static void emptyRows() {
        read("", 0);
        read("|", 0);
        read("||", 0);
        read("()", 0);
        read("(|)", 0);
        read("a|", 1);
        read("|a", 1);
        read("a||b", 2);
        match("", "a", 0);
        match("()", "a", 0);
        match("|a", "a", 1);
        match("a(|b)c", "ac", 2);
        match("a(b|)c", "abc", 3);
        match("()a", "a", 1);
    }

    /** "PIECE: ATOM, perhaps * or + or ?" */
    private static void oneMarkAPiece() {
        for (char mark : "*+?".toCharArray()) {
            fault(quoted(mark), 0);
            fault("|" + mark, 1);
            fault("a|" + mark, 2);
            fault("(" + mark + ")", 1);
            read("a" + mark, 1);
            read("." + mark, 1);
            read("[a]" + mark, 1);
            read("\\a" + mark, 1);
            read("(a)" + mark, 1);
            read("()" + mark, 0);
            for (char other : "*+?".toCharArray()) {
                fault("a" + mark + other, 2);
                fault("(a)" + mark + other, 4);
            }
        }
    }

    /** ". (each SIGN that is no BLANK)" */
    private static void eachSignThatIsNoBlank() {
        for (int sign = 0; sign < 256; sign++) {
            match(".", quoted(sign), sign == 32 || sign == 9 || sign == 10 ? 0 : 1);
        }
    }

    /** "a SIGN that is none of | * + ? . [ ] ( ) \" */
    private static void eachSignAsAnAtom() {
        for (int sign = 0; sign < 256; sign++) {
            if (SPECIAL.indexOf(sign) < 0) {
                read(quoted(sign), 1);
                match(quoted(sign), quoted(sign), 1);
                match(quoted(sign), quoted(sign ^ 1), 0);
                match(quoted(sign), quoted(sign ^ 128), 0);
            }
        }
        fault("a]", 1);
        fault("a)", 1);
        read("^", 1);
        read("-", 1);
        read("{2}", 3);
        match("^a-b", "^a-b", 4);
    }

    /** "\ and any SIGN (that one)" */
    private static void anySignBehindABackslash() {
        for (int sign = 0; sign < 256; sign++) {
            read("\\" + quoted(sign), 1);
            match("\\" + quoted(sign), quoted(sign), 1);
            match("\\" + quoted(sign), quoted(sign ^ 1), 0);
            match("[\\" + quoted(sign) + "]", quoted(sign), 1);
            match("[\\" + quoted(sign) + "]", quoted(sign ^ 1), 0);
        }
        match("\\\\a", "\\a", 2);
        fault("\\", 1);
        fault("\\\\\\", 3);
    }

    /** "[, perhaps ^, then one or more of: .. then ]" */
    private static void oneOrMoreInASet() {
        fault("[]", 1);
        fault("[^]", 2);
        fault("[]a]", 1);
        fault("[^]a]", 2);
        read("[a]", 1);
        read("[^a]", 1);
        read("[ab]", 1);
        read("[a-bc-d]", 1);
        read("[a]b", 2);
        fault("[a]]", 3);
        match("[ab]", "a", 1);
        match("[ab]", "b", 1);
        match("[ab]", "c", 0);
        match("[ab][ab]", "ba", 2);
    }

    /** "c, d are SIGNS that are none of ] \ ^ - or \ and any SIGN": each one as c. */
    private static void eachSignInASet() {
        for (int sign = 0; sign < 256; sign++) {
            if (SPECIAL_IN_SET.indexOf(sign) < 0) {
                read("[" + quoted(sign) + "]", 1);
                match("[" + quoted(sign) + "]", quoted(sign), 1);
                match("[" + quoted(sign) + "]", quoted(sign ^ 1), 0);
            }
        }
        fault("[-]", 1);
        fault("[^-]", 2);
        fault("[^^]", 2);
        fault("[a^]", 2);
        fault("[a-b^]", 4);
        fault("[a-b-]", 4);
        fault("[a-b-c]", 4);
        read("[\\]]", 1);
        read("[\\^]", 1);
        read("[^\\^]", 1);
        read("[a\\-b]", 1);
        match("[a\\-c]", "b", 0);
        match("[a\\-c]", "-", 1);
    }

    /** The same sentence: each one as d. */
    private static void eachSignAsTheOtherEnd() {
        for (int sign = 0; sign < 256; sign++) {
            String range = "[\u0000-" + quoted(sign) + "]";
            if (SPECIAL_IN_SET.indexOf(sign) < 0) {
                read(range, 1);
                match(range, quoted(sign), 1);
            } else if (sign != '\\') {
                fault(range, 3);
            }
            String behind = "[\u0000-\\" + quoted(sign) + "]";
            read(behind, 1);
            match(behind, quoted(sign), 1);
            match(behind, quoted((sign + 1) & 255), sign == 255 ? 1 : 0);
        }
    }

    /** "c-d (those from c to d by their numbers, d not below c)" */
    private static void fromTo() {
        match("[b-d]", "a", 0);
        match("[b-d]", "b", 1);
        match("[b-d]", "c", 1);
        match("[b-d]", "d", 1);
        match("[b-d]", "e", 0);
        match("[b-b]", "a", 0);
        match("[b-b]", "b", 1);
        match("[b-b]", "c", 0);
        match("[\u0000-\u00ff]", "\u0000", 1);
        match("[\u0000-\u00ff]", "\u00ff", 1);
        match("[\u007f-\u0080]", "\u0080", 1);
        match("[\u007f-\u0080]", "\u0081", 0);
        match("[Z-a]", "_", 1);
        match("[Z-a]", "b", 0);
        match("[\\a-\\c]", "b", 1);
        read("[b-b]", 1);
        read("[b-c]", 1);
        fault("[b-a]", 3);
        fault("[\u0001-\u0000]", 3);
        fault("[\u0080-\u007f]", 3);
        fault("[a-Z]", 3);
    }

    /** "with ^ it is each SIGN that is none of these" */
    private static void noneOfThese() {
        for (int sign = 0; sign < 256; sign++) {
            match("[^b-dx]", quoted(sign), (sign >= 'b' && sign <= 'd') || sign == 'x' ? 0 : 1);
        }
        match("[^\u0000-\u00ff]", "a", 0);
        match("[^a][a]", "ba", 2);
    }

    /** "a PIECE with * as often as wanted, also not at all, + once or more, ? once or not" */
    private static void howOften() {
        int[][] due = {{1, 2, 3, 4}, {0, 2, 3, 4}, {1, 2, 0, 0}};
        String[] marks = {"*", "+", "?"};
        for (int mark = 0; mark < 3; mark++) {
            for (int times = 0; times < 4; times++) {
                String text = "a".repeat(times) + "b";
                match("a" + marks[mark] + "b", text, due[mark][times]);
                match("(a)" + marks[mark] + "b", text, due[mark][times]);
                match("[a]" + marks[mark] + "b", text, due[mark][times]);
                match("\\a" + marks[mark] + "b", text, due[mark][times]);
            }
        }
        match("(ab)*c", "ababc", 5);
        match("(ab)+c", "c", 0);
        match("(ab)?c", "ababc", 0);
        match("(a?)*b", "aab", 3);
        match("(a*)+b", "b", 1);
        match("a*", "a".repeat(300), 300);
        match("(a|b*)*c", "abbac", 5);
    }

    /** "There are 60 ATOMS at most that are no ( ) (the 61st is wrong at its first SIGN)" */
    private static void sixtyAtoms() {
        String[] kinds = {"a", ".", "[a]", "[^a]", "\\a"};
        for (String kind : kinds) {
            read("b".repeat(58) + kind, 59);
            read("b".repeat(59) + kind, 60);
            fault("b".repeat(60) + kind, 60);
            read(kind.repeat(60), 60);
            fault(kind.repeat(61), 60 * kind.length());
            fault("(" + kind.repeat(60) + ")*|" + kind, 60 * kind.length() + 4);
        }
        fault("b".repeat(60) + "[", 60);
        fault("b".repeat(60) + "[]", 60);
        fault("b".repeat(60) + "[b-a]", 60);
        fault("b".repeat(60) + "\\", 60);
        match("b".repeat(59) + "c", "b".repeat(59) + "c", 60);
        match("b".repeat(59) + "c?", "b".repeat(60), 59);
    }

    /** ( ) and marks are no ATOMS that are counted, and may stand behind the 60th one. */
    private static void whatIsNoAtom() {
        read("a".repeat(60) + "()", 60);
        read("a".repeat(60) + "*", 60);
        read("a".repeat(60) + "|", 60);
        read("(".repeat(8) + "a".repeat(60) + ")".repeat(8), 60);
        read("()".repeat(150), 0);
        fault("a".repeat(60) + "]", 60);
        fault("a".repeat(60) + ")", 60);
        fault("a".repeat(60) + "**", 61);
        fault("a".repeat(60) + "(", 61);
    }

    /** "( ) lie within 7 others at most (a ( within eight is wrong)" */
    private static void withinSevenOthers() {
        read("(".repeat(7) + ")".repeat(7), 0);
        read("(".repeat(8) + ")".repeat(8), 0);
        fault("(".repeat(9) + ")".repeat(9), 8);
        fault("(".repeat(9), 8);
        fault("a" + "(".repeat(9), 9);
        fault("(".repeat(8) + "a(", 9);
        fault("(".repeat(8) + ")((", 10);
        read("(".repeat(8) + ")" + "()" + ")".repeat(7), 0);
        read("(".repeat(8) + ")".repeat(8) + "(".repeat(8) + ")".repeat(8), 0);
        read("(".repeat(8) + "\\([(]" + ")".repeat(8), 2);
        match("(".repeat(8) + "a" + ")+".repeat(8) + "b", "aab", 3);
    }

    /** "THE FAULT is the place of the first SIGN that cannot stand there" */
    private static void faultsAtASign() {
        fault(")", 0);
        fault("]", 0);
        fault("a)", 1);
        fault("(a))", 3);
        fault("()())", 4);
        fault("a|)", 2);
        fault("(a]", 2);
        fault("[a][-", 4);
        fault("a".repeat(59) + "*".repeat(241), 60);
        fault("()".repeat(149) + "a)", 299);
    }

    /** "(of c-d with d below c: d's first one)" */
    private static void faultsOfRanges() {
        fault("[c-b]", 3);
        fault("[c-\\b]", 3);
        fault("[\\c-b]", 4);
        fault("[\\c-\\b]", 4);
        fault("[^c-b]", 4);
        fault("[ac-b]", 4);
        fault("[a-cc-b]", 6);
        fault("[c-b", 3);
    }

    /** "or the length, if it ends too soon" */
    private static void faultsAtTheLength() {
        fault("(", 1);
        fault("(a", 2);
        fault("(a|", 3);
        fault("((a)", 4);
        fault("[", 1);
        fault("[^", 2);
        fault("[a", 2);
        fault("[a-", 3);
        fault("[a-b", 4);
        fault("[a-\\", 4);
        fault("[\\", 2);
        fault("[\\]", 3);
        fault("[^\\", 3);
        fault("a\\", 2);
        fault("(\\", 2);
        fault("(\\)", 3);
        fault("([)]", 4);
        fault("()".repeat(149) + "a\\", 300);
        fault("()".repeat(149) + "a(", 300);
        fault("[" + "a".repeat(299), 300);
        read("[" + "a".repeat(298) + "]", 1);
        read("()".repeat(149) + "\\\\", 1);
    }

    private static void firstOfSeveralFaults() {
        fault("a)]", 1);
        fault("(*]", 1);
        fault("a**)", 2);
        fault("[b-a-]", 3);
        fault("(]", 1);
        fault("(".repeat(9) + "*", 8);
        fault("*" + "(".repeat(9), 0);
        fault("a".repeat(61) + ")", 60);
        fault(")" + "a".repeat(61), 0);
    }
}
