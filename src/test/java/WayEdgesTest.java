/** The document's "Terms", 1: each sentence on SIGNS, the nine ways and LINKS that names a boundary case. */
public final class WayEdgesTest {
    public static void main(String[] args) {
        kindsOfSigns();
        placesAndEnds();
        rowsAsLongAsCanBe();
        joinedByLetters();
        joinedByFigures();
        linksBegin();
        linksByAt();
        linksByWeb();
        linksAsLongAsCanBe();
        matchesOfOneSignOrMore();
        matchesGoOnAtTheEnd();
        slashes();
        rowsOfSizes();
        beginningsOfSizes();
        leastSum();
        fewestPieces();
        longestFirst();
        lesserCostOfBoth();
        strangeOnesTogether();
        pairs();
        Check.end("WayEdgesTest");
    }

    /** "LETTERS a .. z, A .. Z, FIGURES 0 .. 9, BLANKS 32, 9, 10; all others are OTHER": each of the 256. */
    private static void kindsOfSigns() {
        String letters = "abcdefghijklmnopqrstuvwxyzABCDEFGHIJKLMNOPQRSTUVWXYZ";
        for (int sign = 0; sign < 256; sign++) {
            boolean letter = letters.indexOf(sign) >= 0;
            boolean figure = "0123456789".indexOf(sign) >= 0;
            boolean blank = sign == 32 || sign == 9 || sign == 10;
            TokenMachines m = Check.machine("" + (char) sign);
            Check.due("a LETTER: " + sign, m.tokens(0, 0, 0), letter ? 1 : 0);
            Check.due("no BLANK: " + sign, m.tokens(1, 0, 0), blank ? 0 : 1);
            Check.due("of a WORD: " + sign, m.tokens(2, 0, 0), letter || figure || sign == 95 ? 1 : 0);
            Check.due("of a path: " + sign, m.tokens(4, 0, 0), blank ? 0 : 1);
            Check.due("a row of LETTERS: " + sign, m.tokens(5, 1, 1), letter ? 1 : 0);
            Check.due("a row's beginning: " + sign, m.tokens(6, 1, 1), letter ? 1 : 0);
            Check.due("of a row that is cut: " + sign, m.tokens(7, 0, 0), blank ? 0 : 1);
            Check.due("OTHER: " + sign, m.tokens(8, 0, 0), letter || figure || blank ? 0 : 1);
            Check.due("a BLANK has no COST: " + sign, m.cost(0), blank ? TokenMachines.NO : 100);
        }
        for (int sign = 0; sign < 256; sign++) {
            boolean figure = sign >= '0' && sign <= '9';
            Check.due("a FIGURE joins: " + sign, Check.machine((char) sign + ",5").tokens(2, 0, 0),
                    figure ? 1 : letters.indexOf(sign) >= 0 || sign == '_' ? 2 : 1);
            TokenMachines m = Check.machine("5," + (char) sign);
            m.tokens(2, 0, 0);
            Check.due("a FIGURE is joined: " + sign, m.token(0, 1), figure ? 3 : 1);
        }
    }

    /** "A TOKEN goes from a place to an end (the place behind its last SIGN)." */
    private static void placesAndEnds() {
        TokenMachines m = Check.machine("a" + " ".repeat(298) + "b");
        Check.due("at the text's first and last SIGN", m.tokens(1, 0, 0), 2);
        Check.due("the first place", m.token(0, 0), 0);
        Check.due("the first one's end", m.token(0, 1), 1);
        Check.due("the last place", m.token(1, 0), 299);
        Check.due("the last one's end is behind the text", m.token(1, 1), 300);
        Check.due("its last SIGN", m.sign(1, 0), 'b');
    }

    private static void whole(int way, String sign) {
        TokenMachines m = Check.machine(sign.repeat(300));
        Check.due("300 of way " + way, m.tokens(way, 1, 1), 1);
        Check.due("from the beginning, way " + way, m.token(0, 0), 0);
        Check.due("to the text's end, way " + way, m.token(0, 1), 300);
    }

    /** "rows of LETTERS, .. rows of SIGNS that are no BLANKS, each as long as can be." */
    private static void rowsAsLongAsCanBe() {
        whole(0, "a");
        whole(1, "!");
        whole(2, "7");
        whole(4, "p");
        whole(7, "q");
        Check.due("no row in an empty text", Check.cut("", 0), "");
        Check.due("none of BLANKS alone", Check.cut(" \t\n ", 1), "");
        Check.due("rows of one", Check.cut("a1b", 0), "a@0 b@1");
        Check.due("each BLANK parts", Check.cut("a b\tc\nd", 1), "a@0 b@1 c@2 d@3");
        Check.due("several BLANKS part once", Check.cut("  a \n\t b  ", 1), "a@0 b@1");
        Check.due("other SIGNS part no row", Check.cut("a\u000bb\rc\u00a0d\u001f!", 1), "a\u000bb\rc\u00a0d\u001f!@0");
    }

    /** "of ' (39), . (46) with a LETTER right before and right behind" */
    private static void joinedByLetters() {
        for (String joint : new String[] {"'", "."}) {
            Check.due("within", Check.cut("a" + joint + "Z", 2), "a" + joint + "Z@0");
            Check.due("the text's beginning before", Check.cut(joint + "a", 2), "a@0");
            Check.due("the text's end behind", Check.cut("a" + joint, 2), "a@0");
            Check.due("two of them", Check.cut("a" + joint + joint + "b", 2), "a@0 b@1");
            Check.due("one after each LETTER", Check.cut("a" + joint + "b" + joint + "c" + joint, 2),
                    "a" + joint + "b" + joint + "c@0");
            Check.due("a FIGURE before", Check.cut("1" + joint + "a", 2), "1@0 a@1");
            Check.due("a FIGURE behind", Check.cut("a" + joint + "1", 2), "a@0 1@1");
            Check.due("a _ before", Check.cut("_" + joint + "a", 2), "_@0 a@1");
            Check.due("a _ behind", Check.cut("a" + joint + "_", 2), "a@0 _@1");
            Check.due("a BLANK before", Check.cut("b " + joint + "a", 2), "b@0 a@1");
            Check.due("a BLANK behind", Check.cut("a" + joint + " b", 2), "a@0 b@1");
        }
        Check.due("' joins no FIGURES", Check.cut("1'2", 2), "1@0 2@1");
        Check.due("' and . are not right behind a LETTER", Check.cut("a'.b", 2), "a@0 b@1");
        Check.due("alone", Check.cut("' . ,", 2), "");
        Check.due("no others join", Check.cut("a-b a`b a&b a:b a,b", 2), "a@0 b@1 a@2 b@3 a@4 b@5 a@6 b@7 a@8 b@9");
    }

    /** "of , (44), . with a FIGURE right before and right behind" */
    private static void joinedByFigures() {
        for (String joint : new String[] {",", "."}) {
            Check.due("within", Check.cut("0" + joint + "9", 2), "0" + joint + "9@0");
            Check.due("the text's beginning before", Check.cut(joint + "5", 2), "5@0");
            Check.due("the text's end behind", Check.cut("5" + joint, 2), "5@0");
            Check.due("two of them", Check.cut("1" + joint + joint + "2", 2), "1@0 2@1");
            Check.due("one after each FIGURE", Check.cut("1" + joint + "2" + joint + "3" + joint, 2),
                    "1" + joint + "2" + joint + "3@0");
            Check.due("a LETTER before", Check.cut("a" + joint + "5", 2), "a@0 5@1");
            Check.due("a LETTER behind", Check.cut("5" + joint + "a", 2), "5@0 a@1");
            Check.due("a _ before", Check.cut("_" + joint + "5", 2), "_@0 5@1");
            Check.due("a _ behind", Check.cut("5" + joint + "_", 2), "5@0 _@1");
        }
        Check.due(", joins no LETTERS", Check.cut("a,b", 2), "a@0 b@1");
        Check.due("both in one", Check.cut("1,234.5", 2), "1,234.5@0");
        Check.due("no others join", Check.cut("1:2 1;2 1-2 1/2", 2), "1@0 2@1 1@2 2@3 1@4 2@5 1@6 2@7");
    }

    private static String linked(String text) {
        TokenMachines m = Check.machine(text);
        m.links(true);
        m.tokens(2, 0, 0);
        return Check.brief(m);
    }

    /** "ahead of which there is the text's beginning or a BLANK" */
    private static void linksBegin() {
        Check.due("at the text's beginning", linked("a@-"), "a@-@0");
        Check.due("behind a space", linked("- a@-"), "a@-@0");
        Check.due("behind a tab", linked("-\ta@-"), "a@-@0");
        Check.due("behind a line", linked("-\na@-"), "a@-@0");
        Check.due("not behind another SIGN", linked("-www.x-y"), "www.x@0 y@1");
        Check.due("not behind 13", linked("-\rwww.x-y"), "www.x@0 y@1");
        Check.due("not behind 0", linked("\u0000www.x-y"), "www.x@0 y@1");
        Check.due("LINKS off", Check.cut("a@- www.x-y", 2), "a@0 www.x@1 y@2");
        Check.due("each BLANK ends one", linked("a@b c@d\te@f\ng"), "a@b@0 c@d@1 e@f@2 g@3");
    }

    /** "with an @ (64) that is not its first or last SIGN" */
    private static void linksByAt() {
        Check.due("the first SIGN", linked("@a-b"), "a@0 b@1");
        Check.due("the last SIGN", linked("a-b@"), "a@0 b@1");
        Check.due("the last SIGN ahead of a BLANK", linked("a-b@ c"), "a@0 b@1 c@2");
        Check.due("the second one", linked("a@-b"), "a@-b@0");
        Check.due("the last but one", linked("a-@b"), "a-@b@0");
        Check.due("one alone", linked("@"), "");
        Check.due("two alone", linked("@@"), "");
        Check.due("three alone", linked("@@@"), "@@@@0");
        Check.due("first and last", linked("@a-b@"), "a@0 b@1");
        Check.due("first and within", linked("@a@-b"), "@a@-b@0");
        Check.due("within and last", linked("a-@@"), "a-@@@0");
        Check.due("63 and 65 are none", linked("-?- -A-"), "A@0");
        Check.due("the next row's @ is not this one's", linked("a-b c@d"), "a@0 b@1 c@d@2");
    }

    /** "or that begins with www. and has a fifth SIGN" */
    private static void linksByWeb() {
        Check.due("four SIGNS", linked("www."), "www@0");
        Check.due("four SIGNS ahead of a BLANK", linked("www. -"), "www@0");
        Check.due("four SIGNS ahead of a BLANK and more", linked("www.\tx-y"), "www@0 x@1 y@2");
        Check.due("four SIGNS behind a BLANK", linked("ab cd www. e"), "ab@0 cd@1 www@2 e@3");
        Check.due("five SIGNS", linked("www.-"), "www.-@0");
        Check.due("five SIGNS at the text's end", linked("x www.!"), "x@0 www.!@1");
        Check.due("three SIGNS", linked("www"), "www@0");
        Check.due("without the point", linked("www-x"), "www@0 x@1");
        Check.due("two w", linked("ww.x-"), "ww.x@0");
        Check.due("four w", linked("wwww.x-"), "wwww.x@0");
        Check.due("large letters", linked("Www.x- wWw.x- wwW.x-"), "Www.x@0 wWw.x@1 wwW.x@2");
        Check.due("later in the row", linked("-www.x-y"), "www.x@0 y@1");
    }

    /** "as long as can be: it is one TOKEN" */
    private static void linksAsLongAsCanBe() {
        TokenMachines m = Check.machine("www." + "-".repeat(296));
        m.links(true);
        Check.due("300 SIGNS", m.tokens(2, 0, 0), 1);
        Check.due("its end", m.token(0, 1), 300);
        Check.due("words behind it", linked("a@b-c.d/e?f=1,x' g-h"), "a@b-c.d/e?f=1,x'@0 g@1 h@2");
        Check.due("a row of SIGNS of all kinds", linked("\u0000@\u00ff\r_"), "\u0000@\u00ff\r_@0");
    }

    private static String matched(String pattern, String text) {
        TokenMachines m = Check.machine(text);
        Check.pattern(m, pattern);
        m.tokens(3, 0, 0);
        return Check.shown(m);
    }

    /** "the longest row of one SIGN or more that MATCHES" */
    private static void matchesOfOneSignOrMore() {
        Check.due("rows of no SIGN are none", matched("a*", "bcb"), "");
        Check.due("one SIGN", matched("a*", "bab"), "a:1-2@0;");
        Check.due("the longest, told first", matched("abc|ab|a", "abc"), "abc:0-3@0;");
        Check.due("the longest, told last", matched("a|ab|abc", "abc"), "abc:0-3@0;");
        Check.due("not longer than the text", matched("abc|ab", "ab"), "ab:0-2@0;");
        Check.due("none, as the text ends", matched("abc", "ab"), "");
        Check.due("an empty text", matched("a*", ""), "");
        TokenMachines m = Check.machine("a".repeat(300));
        Check.pattern(m, "a*");
        Check.due("300 SIGNS", m.tokens(3, 0, 0), 1);
        Check.due("its end", m.token(0, 1), 300);
    }

    /** "the next one is looked for at its end; without one at the next place" */
    private static void matchesGoOnAtTheEnd() {
        Check.due("right at its end", matched("ab", "abab"), "ab:0-2@0;ab:2-4@1;");
        Check.due("not within it", matched("aba", "ababa"), "aba:0-3@0;");
        Check.due("from the first place on", matched("aa", "aaa"), "aa:0-2@0;");
        Check.due("at the next place", matched("ab", "aab"), "ab:1-3@0;");
        Check.due("at the last place", matched("b", "aab"), "b:2-3@0;");
        Check.due("at each place", matched("a", "aaa"), "a:0-1@0;a:1-2@1;a:2-3@2;");
        Check.due("over BLANKS", matched("a b", "a ba b"), "a b:0-3@0;a b:3-6@1;");
    }

    /** "for each / (47) in it that is not its first SIGN .. Of // the second one ends one, too" */
    private static void slashes() {
        Check.due("none", Check.cut("ab", 4), "ab@0");
        Check.due("the first SIGN", Check.cut("/ab", 4), "/ab@0");
        Check.due("the last SIGN", Check.cut("ab/", 4), "ab@0 ab/@0");
        Check.due("first and last", Check.cut("/a/", 4), "/a@0 /a/@0");
        Check.due("one alone", Check.cut("/", 4), "/@0");
        Check.due("two alone", Check.cut("//", 4), "/@0 //@0");
        Check.due("three alone", Check.cut("///", 4), "/@0 //@0 ///@0");
        Check.due("two within", Check.cut("a//b", 4), "a@0 a/@0 a//b@0");
        Check.due("two first", Check.cut("//b", 4), "/@0 //b@0");
        Check.due("first of the second row", Check.cut("a /b", 4), "a@0 /b@1");
        Check.due("46, 48 and 92 are none", Check.cut("a.b0c\\d", 4), "a.b0c\\d@0");
        Check.due("300 of them", Check.machine("/".repeat(300)).tokens(4, 0, 0), 300);
    }

    /** "ROWS of a to b SIGNS within each row of LETTERS .. by places, of one place the shorter ones first" */
    private static void rowsOfSizes() {
        Check.due("a row shorter than a", Check.cut("ab", 5, 3, 4), "");
        Check.due("a row of a", Check.cut("abc", 5, 3, 4), "abc@0");
        Check.due("a row of b", Check.cut("abcd", 5, 3, 4), "abc@0 abcd@0 bcd@1");
        Check.due("a row longer than b", Check.cut("abcde", 5, 3, 4), "abc@0 abcd@0 bcd@1 bcde@1 cde@2");
        Check.due("a is b", Check.cut("abc", 5, 2, 2), "ab@0 bc@1");
        Check.due("1 to 300", Check.cut("ab", 5, 1, 300), "a@0 ab@0 b@1");
        Check.due("not over the row's end", Check.cut("ab1cd", 5, 2, 3), "ab@0 cd@1");
        Check.due("not over a BLANK", Check.cut("a bc", 5, 2, 2), "bc@0");
        Check.due("300 of 300", Check.machine("a".repeat(300)).tokens(5, 300, 300), 1);
        Check.due("299 of 300", Check.machine("a".repeat(300)).tokens(5, 299, 300), 3);
    }

    /** "6 likewise, but those alone that begin where the row does" */
    private static void beginningsOfSizes() {
        Check.due("a row shorter than a", Check.cut("ab", 6, 3, 4), "");
        Check.due("a row of a", Check.cut("abc", 6, 3, 4), "abc@0");
        Check.due("a row of b", Check.cut("abcd", 6, 3, 4), "abc@0 abcd@0");
        Check.due("a row longer than b", Check.cut("abcde", 6, 3, 4), "abc@0 abcd@0");
        Check.due("a is b", Check.cut("abc", 6, 2, 2), "ab@0");
        Check.due("a short row has no POSITION", Check.cut("abc d efg", 6, 2, 3), "ab@0 abc@0 ef@1 efg@1");
        Check.due("300 of 300", Check.machine("a".repeat(300)).tokens(6, 1, 300), 300);
    }

    private static String pieces(String text, String... words) {
        TokenMachines m = Check.machine(text);
        for (String word : words) {
            String[] parts = word.split("=");
            Check.word(m, parts[0], Integer.parseInt(parts[1]));
        }
        m.tokens(7, 0, 0);
        return Check.brief(m);
    }

    /** "so that the sum is the least" */
    private static void leastSum() {
        Check.due("one less for one", pieces("ab", "a=50", "b=50", "ab=99"), "ab@0");
        Check.due("one less for two", pieces("ab", "a=50", "b=50", "ab=101"), "a@0 b@1");
        Check.due("a WORD is dearer than STRANGE ones", pieces("ab", "ab=201", "a=100"), "a@0 b@1");
        Check.due("a WORD over the row's end", pieces("ab", "abc=1", "a=100"), "a@0 b@1");
        Check.due("a WORD over a BLANK", pieces("a b", "ab=1"), "a@0 b@1");
        Check.due("a WORD of 12", pieces("xabcdefghijkly", "abcdefghijkl=1000"), "x@0 abcdefghijkl@1 y@2");
        Check.due("the least WORD first is not the least sum",
                pieces("abc", "ab=1", "c=90", "a=20", "bc=60"), "a@0 bc@1");
    }

    /** "of like ways that of the fewest PIECES" */
    private static void fewestPieces() {
        Check.due("one ahead of two", pieces("ab", "a=50", "b=50", "ab=100"), "ab@0");
        Check.due("one ahead of two, told first", pieces("ab", "ab=100", "b=50", "a=50"), "ab@0");
        Check.due("a WORD ahead of two STRANGE ones", pieces("ab", "ab=200", "a=100"), "ab@0");
        Check.due("the fewest ahead of the longest first",
                pieces("abcdef", "abc=10", "de=10", "f=10", "ab=15", "cdef=15"), "ab@0 cdef@1");
        Check.due("each STRANGE one is a PIECE", pieces("abcd", "ab=200", "a=100", "bcd=300"), "a@0 bcd@1");
        Check.due("so are WORDS", pieces("abcd", "ab=189", "a=99", "bcd=290"), "a@0 bcd@1");
        Check.due("a STRANGE one is one PIECE", pieces("xabc", "xa=50", "b=50", "c=50", "abc=50"), "x@0 abc@1");
        Check.due("a STRANGE one behind a WORD", pieces("abc", "ab=200"), "ab@0 c@1");
    }

    /** "of these that whose first PIECE is the longest, then whose second one is, and so on" */
    private static void longestFirst() {
        Check.due("the first one", pieces("abc", "a=10", "bc=10", "ab=10", "c=10"), "ab@0 c@1");
        Check.due("the first one, told first", pieces("abc", "ab=10", "c=10", "a=10", "bc=10"), "ab@0 c@1");
        Check.due("the second one", pieces("xabc", "x=1", "a=10", "bc=10", "ab=10", "c=10"), "x@0 ab@1 c@2");
        Check.due("the third one", pieces("xyabc", "x=1", "y=1", "bc=10", "a=10", "c=10", "ab=10"), "x@0 y@1 ab@2 c@3");
        Check.due("the first one ahead of the second one",
                pieces("abcdef", "ab=10", "c=10", "def=10", "a=10", "bcde=10", "f=10"), "ab@0 c@1 def@2");
    }

    /** "A SIGN that is a WORD, too, has the lesser COST of both" */
    private static void lesserCostOfBoth() {
        int[][] prices = {{99, 99}, {100, 100}, {101, 100}, {1, 1}, {1000, 100}};
        for (int[] price : prices) {
            TokenMachines m = Check.machine("a");
            Check.word(m, "a", price[0]);
            Check.due("a WORD of " + price[0], m.cost(0), price[1]);
            m.tokens(7, 0, 0);
            Check.due("it is one TOKEN", Check.brief(m), "a@0");
        }
    }

    /** "STRANGE ones that stand next to each other are one TOKEN (a SIGN is STRANGE, if it is no WORD)" */
    private static void strangeOnesTogether() {
        Check.due("one", pieces("a", "b=1"), "a@0");
        Check.due("two", pieces("ac", "b=1"), "ac@0");
        Check.due("before and behind a WORD", pieces("xxbyy", "b=1"), "xx@0 b@1 yy@2");
        Check.due("a dear WORD of one SIGN is not STRANGE", pieces("xay", "a=1000"), "x@0 a@1 y@2");
        Check.due("two of them stay two", pieces("aa", "a=1000"), "a@0 a@1");
        Check.due("not over a BLANK", pieces("xx yy", "b=1"), "xx@0 yy@1");
        Check.due("a SIGN of a longer WORD is STRANGE", pieces("aab", "ab=300"), "aab@0");
        TokenMachines m = Check.machine("x".repeat(300));
        Check.due("300 of them", m.tokens(7, 0, 0), 1);
        Check.due("the end", m.token(0, 1), 300);
    }

    /** "each two that stand next to each other; a lone one by itself" */
    private static void pairs() {
        Check.due("a lone one", Check.cut("!", 8), "!@0");
        Check.due("two", Check.cut("!?", 8), "!?@0");
        Check.due("three", Check.cut("!?#", 8), "!?@0 ?#@1");
        Check.due("at both ends", Check.cut("!a?#b;", 8), "!@0 ?#@1 ;@2");
        Check.due("BLANKS part", Check.cut("! ?\t#\n;", 8), "!@0 ?@1 #@2 ;@3");
        Check.due("FIGURES part", Check.cut("!0?9#", 8), "!@0 ?@1 #@2");
        Check.due("none", Check.cut("ab 12", 8), "");
        Check.due("300 of them", Check.machine("!".repeat(300)).tokens(8, 0, 0), 299);
    }
}
