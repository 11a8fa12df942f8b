/** Promises 1 to 15: each sentence that names a boundary case, the last value taken and the first refused. */
public final class PromiseEdgesTest {
    private static final int BAD = TokenMachines.BAD;
    private static final int NO = TokenMachines.NO;
    private static final int FULL = TokenMachines.FULL;
    private static final int LEAST = Integer.MIN_VALUE;
    private static final int MOST = Integer.MAX_VALUE;

    public static void main(String[] args) {
        aNewObject();
        howManyBytesAtOnce();
        theLowestBytes();
        theFullTape();
        theTapeBecomesTheText();
        tokensAreGone();
        theTapeBecomesThePattern();
        theSizeOfAWord();
        noBlankInAWord();
        theCostOfAWord();
        aWordThatIsOneAlready();
        fortyWords();
        fortyOfTwelve();
        theCostOfStrangeOnes();
        linksFromNowOn();
        longestAndItsRule();
        theWays();
        theSizes();
        fourHundredOfWay5();
        fourHundredOfOthers();
        whatCountsAndWhatDoesNot();
        whichToken();
        whichSign();
        whichTwo();
        whichPlaceCosts();
        whichRowCosts();
        whichPlaceMatches();
        theLongestMatch();
        whichCount();
        fiveHundredAndTwelveCalls();
        Check.end("PromiseEdgesTest");
    }

    /** "An empty TAPE and TEXT, no TOKENS; THE PATTERN is empty ..; no dictionary, STRANGE ones cost 100; LINKS off" */
    private static void aNewObject() {
        for (int what = 0; what <= 4; what++) {
            Check.due("1: count " + what, new TokenMachines().count(what), 0);
        }
        Check.due("1: its text from the empty TAPE", new TokenMachines().text(), 0);
        Check.due("1: its pattern from the empty TAPE", new TokenMachines().pattern(), 0);
        Check.due("1: its word from the empty TAPE", new TokenMachines().word(1), BAD);
        Check.due("1: no TOKEN", new TokenMachines().token(0, 0), BAD);
        Check.due("1: no SIGN", new TokenMachines().sign(0, 0), BAD);
        Check.due("1: no two TOKENS", new TokenMachines().same(0, 0), BAD);
        Check.due("1: no place that costs", new TokenMachines().cost(0), BAD);
        Check.due("1: no place that MATCHES", new TokenMachines().match(0), BAD);
        Check.due("1: STRANGE ones cost 100", new TokenMachines().strange(1), 100);
        Check.due("1: LINKS off", new TokenMachines().links(true), 0);
        Check.due("1: LONGEST", new TokenMachines().longest(1, 1), 300);
        for (int way = 0; way <= 8; way++) {
            Check.due("1: no TOKENS of way " + way, new TokenMachines().tokens(way, 1, 300), 0);
        }
        Check.due("1: the empty pattern MATCHES no SIGN", Check.machine("a").match(0), 0);
        Check.due("1: one STRANGE SIGN", Check.machine("a").cost(0), 100);
        TokenMachines m = Check.machine("a");
        TokenMachines n = new TokenMachines();
        Check.due("1: objects share nothing", m.count(0) + 10 * n.count(0), 1);
    }

    /** "The n (1 .. 8) lowest bytes .. BAD: n." */
    private static void howManyBytesAtOnce() {
        for (int n = 1; n <= 8; n++) {
            Check.due("2: n is " + n, new TokenMachines().feed(n, -1L), n);
        }
        for (int n : new int[] {0, 9, -1, -8, 256, 257, LEAST, MOST}) {
            Check.due("2: n is " + n, new TokenMachines().feed(n, 65L), BAD);
        }
    }

    /** "the lowest one first, come behind the TAPE: how many it has" */
    private static void theLowestBytes() {
        TokenMachines m = new TokenMachines();
        Check.due("2: one", m.feed(1, 0x4241L), 1);
        Check.due("2: two behind it", m.feed(2, 0x444342L), 3);
        Check.due("2: eight behind them, the highest bit set", m.feed(8, 0xff80fe7f01003041L), 11);
        m.text();
        m.tokens(1, 0, 0);
        int[] due = {0x41, 0x42, 0x43, 0x41, 0x30, 0x00, 0x01, 0x7f, 0xfe, 0x80, 0xff};
        for (int i = 0; i < due.length; i++) {
            Check.due("2: byte " + i, m.sign(0, i), due[i]);
        }
        TokenMachines n = new TokenMachines();
        n.feed(8, Long.MIN_VALUE);
        n.text();
        n.tokens(1, 0, 0);
        Check.due("2: the lowest byte of the least number", n.sign(0, 0), 0);
        Check.due("2: the highest byte of the least number", n.sign(0, 7), 128);
    }

    private static TokenMachines fed(int many) {
        TokenMachines m = new TokenMachines();
        Check.feed(m, "a".repeat(many));
        return m;
    }

    /** "FULL: more than 300." */
    private static void theFullTape() {
        for (int n = 1; n <= 8; n++) {
            Check.due("2: up to 300 by " + n, fed(300 - n).feed(n, 0L), 300);
            TokenMachines m = fed(301 - n);
            Check.due("2: up to 301 by " + n, m.feed(n, 0L), FULL);
            Check.due("2: the TAPE stays", m.count(2), 301 - n);
            Check.due("2: one more has room or not", m.feed(1, 0L), n == 1 ? FULL : 302 - n);
        }
        Check.due("2: BAD is first", fed(300).feed(0, 0L), BAD);
        Check.due("2: BAD is first, too", fed(300).feed(9, 0L), BAD);
        TokenMachines m = fed(300);
        m.text();
        Check.due("2: the TAPE has room again", m.feed(8, 0L), 8);
    }

    /** "The TAPE, which is empty then, is THE TEXT: how many SIGNS." */
    private static void theTapeBecomesTheText() {
        for (int many : new int[] {0, 1, 299, 300}) {
            TokenMachines m = fed(many);
            Check.due("3: SIGNS", m.text(), many);
            Check.due("3: the TAPE is empty", m.count(2), 0);
            Check.due("3: they are counted", m.count(0), many);
        }
        TokenMachines m = Check.machine("long one");
        Check.due("3: a shorter one", Check.give(m, "x"), 1);
        Check.due("3: nothing of the longer one stays", m.cost(1), BAD);
        Check.due("3: the empty one", m.text(), 0);
        Check.due("3: nothing stays", m.cost(0), BAD);
    }

    /** "TOKENS are gone." */
    private static void tokensAreGone() {
        TokenMachines m = Check.machine("a b");
        m.tokens(0, 0, 0);
        Check.feed(m, "c d");
        Check.due("3: feed leaves them", m.count(1), 2);
        m.text();
        Check.due("3: text does not", m.count(1), 0);
        Check.due("3: none is left", m.token(0, 0), BAD);
        m.tokens(0, 0, 0);
        m.text();
        Check.due("3: an empty text does not", m.count(1), 0);
    }

    /** "how many ATOMS (but ( )); -10 less THE FAULT, and the one before stays" */
    private static void theTapeBecomesThePattern() {
        TokenMachines m = Check.machine("abb");
        Check.due("4: none", m.pattern(), 0);
        Check.due("4: one", Check.pattern(m, "(a)"), 1);
        Check.due("4: THE FAULT at 0", Check.pattern(m, ")"), -10);
        Check.due("4: the TAPE is empty", m.count(2), 0);
        Check.due("4: THE FAULT at 299", Check.pattern(m, "()".repeat(149) + "b)"), -309);
        Check.due("4: THE FAULT at 300", Check.pattern(m, "()".repeat(149) + "b("), -310);
        Check.due("4: the TAPE is empty again", m.count(2), 0);
        Check.due("4: the one before stays", m.match(0), 1);
        Check.due("4: it alone", m.match(1), 0);
        Check.due("4: its ATOMS stay", m.count(3), 1);
        Check.due("4: 60", Check.pattern(m, "b".repeat(60)), 60);
        Check.due("4: the 61st", Check.pattern(m, "a".repeat(61)), -70);
        Check.due("4: 60 stay", m.count(3), 60);
        Check.due("4: two", Check.pattern(m, "b|b"), 2);
        Check.due("4: no SIGN is left of those before", m.match(0), 0);
        Check.due("4: no row is left of those before", m.match(1), 1);
        Check.due("4: the empty one", m.pattern(), 0);
        Check.due("4: it MATCHES nothing", m.match(1), 0);
    }

    /** "BAD: it has not 1 to 12 SIGNS" */
    private static void theSizeOfAWord() {
        for (int many : new int[] {0, 1, 2, 11, 12, 13, 14, 299, 300}) {
            TokenMachines m = fed(many);
            boolean taken = many >= 1 && many <= 12;
            Check.due("5: a WORD of " + many, m.word(1), taken ? 0 : BAD);
            Check.due("5: the TAPE is empty", m.count(2), 0);
            Check.due("5: how many", m.count(4), taken ? 1 : 0);
        }
    }

    /** "or a BLANK" */
    private static void noBlankInAWord() {
        for (int sign = 0; sign < 256; sign++) {
            boolean blank = sign == 32 || sign == 9 || sign == 10;
            TokenMachines m = new TokenMachines();
            Check.due("5: alone " + sign, Check.word(m, "" + (char) sign, 1), blank ? BAD : 0);
        }
        for (String blank : new String[] {" ", "\t", "\n"}) {
            TokenMachines m = new TokenMachines();
            Check.due("5: first", Check.word(m, blank + "ab", 1), BAD);
            Check.due("5: within", Check.word(m, "a" + blank + "b", 1), BAD);
            Check.due("5: last", Check.word(m, "ab" + blank, 1), BAD);
            Check.due("5: the twelfth", Check.word(m, "abcdefghijk" + blank, 1), BAD);
            Check.due("5: none came in", m.count(4), 0);
        }
    }

    /** "cost is not 1 .. 1000" */
    private static void theCostOfAWord() {
        for (int cost : new int[] {1, 2, 999, 1000}) {
            TokenMachines m = Check.machine("ab");
            m.strange(1000);
            Check.due("5: cost " + cost, Check.word(m, "ab", cost), 0);
            Check.due("5: it costs that", m.cost(0), cost);
        }
        for (int cost : new int[] {0, -1, 1001, 1002, LEAST, MOST}) {
            TokenMachines m = new TokenMachines();
            Check.due("5: cost " + cost, Check.word(m, "ab", cost), BAD);
            Check.due("5: none came in", m.count(4), 0);
            Check.due("5: the TAPE is empty", m.count(2), 0);
        }
    }

    /** "NO: it is one already." */
    private static void aWordThatIsOneAlready() {
        TokenMachines m = Check.machine("abc");
        Check.due("5: new", Check.word(m, "abc", 50), 0);
        Check.due("5: again", Check.word(m, "abc", 50), NO);
        Check.due("5: again for less", Check.word(m, "abc", 1), NO);
        Check.due("5: its COST stays", m.cost(0), 50);
        Check.due("5: the TAPE is empty", m.count(2), 0);
        Check.due("5: its beginning is none", Check.word(m, "ab", 50), 1);
        Check.due("5: a longer one is none", Check.word(m, "abcd", 50), 2);
        Check.due("5: another last SIGN", Check.word(m, "abd", 50), 3);
        Check.due("5: another first SIGN", Check.word(m, "bbc", 50), 4);
        Check.due("5: large LETTERS", Check.word(m, "ABC", 50), 5);
        Check.due("5: 128 apart", Check.word(m, "ab\u00e3", 50), 6);
        Check.due("5: the last one again", Check.word(m, "ab\u00e3", 50), NO);
        Check.due("5: BAD is ahead of NO", Check.word(m, "abc", 1001), BAD);
        Check.due("5: twelve SIGNS", Check.word(m, "abcdefghijkl", 50), 7);
        Check.due("5: twelve SIGNS again", Check.word(m, "abcdefghijkl", 50), NO);
        Check.due("5: the twelfth is another", Check.word(m, "abcdefghijkm", 50), 8);
    }

    /** "its number .. FULL: there are 40." */
    private static void fortyWords() {
        TokenMachines m = Check.machine("ba aA iA");
        for (int i = 0; i < 39; i++) {
            Check.due("5: number " + i, Check.word(m, "" + (char) ('a' + i % 26) + (char) ('A' + i / 26), 10), i);
        }
        Check.due("5: the fortieth", Check.word(m, "zz", 10), 39);
        Check.due("5: the forty-first", Check.word(m, "ba", 10), FULL);
        Check.due("5: the TAPE is empty", m.count(2), 0);
        Check.due("5: 40 stay", m.count(4), 40);
        Check.due("5: it is none", m.cost(0), 200);
        Check.due("5: NO is ahead of FULL", Check.word(m, "zz", 10), NO);
        Check.due("5: the first one, too", Check.word(m, "aA", 10), NO);
        Check.due("5: BAD is ahead of FULL", Check.word(m, "ba", 0), BAD);
        Check.due("5: BAD is ahead of both", Check.word(m, "zz", 0), BAD);
        Check.due("5: a size is BAD ahead of FULL", m.word(10), BAD);
        Check.due("5: a BLANK is BAD ahead of FULL", Check.word(m, "b a", 10), BAD);
        Check.due("5: the first one's COST", m.cost(3), 10);
        Check.due("5: another one's COST", m.cost(6), 10);
        Check.give(m, "zz");
        Check.due("5: the last one's COST", m.cost(0), 10);
    }

    /** The most that a dictionary can hold: each WORD is still one, for its own COST. */
    private static void fortyOfTwelve() {
        TokenMachines m = new TokenMachines();
        for (int i = 0; i < 40; i++) {
            Check.due("5: twelve SIGNS, number " + i, Check.word(m, "abcdefghijk" + (char) ('0' + i), 1 + i), i);
        }
        for (int i = 0; i < 40; i += 3) {
            String word = "abcdefghijk" + (char) ('0' + i);
            Check.due("5: twelve SIGNS again, number " + i, Check.word(m, word, 1), NO);
            Check.give(m, word);
            Check.due("13: twelve SIGNS, number " + i, m.cost(11), 1 + i);
        }
        Check.due("5: the forty-first of twelve", Check.word(m, "abcdefghijkl", 1), FULL);
    }

    /** "The COST of a STRANGE one becomes n: what it was. BAD: n is not 1 .. 1000." */
    private static void theCostOfStrangeOnes() {
        TokenMachines m = Check.machine("a");
        int before = 100;
        for (int n : new int[] {1, 2, 999, 1000}) {
            Check.due("6: taken " + n, m.strange(n), before);
            Check.due("6: it costs that", m.cost(0), n);
            before = n;
            for (int wrong : new int[] {0, -1, 1001, LEAST, MOST}) {
                Check.due("6: refused " + wrong, m.strange(wrong), BAD);
                Check.due("6: it stays", m.cost(0), n);
            }
        }
    }

    /** "LINKS are on, or off, from now on: 1 if they were on, else 0." */
    private static void linksFromNowOn() {
        TokenMachines m = Check.machine("a@b");
        m.tokens(2, 0, 0);
        Check.due("7: off, then on", m.links(true), 0);
        Check.due("7: the TOKENS stay", m.count(1), 2);
        Check.due("7: on, then on", m.links(true), 1);
        Check.due("7: one LINK", m.tokens(2, 0, 0), 1);
        Check.due("7: still on", m.tokens(2, 0, 0), 1);
        Check.due("7: on, then off", m.links(false), 1);
        Check.due("7: off, then off", m.links(false), 0);
        Check.due("7: no LINK", m.tokens(2, 0, 0), 2);
        m.links(true);
        Check.give(m, "c@d");
        Check.due("7: the next text's", m.tokens(2, 0, 0), 1);
    }

    /** "LONGEST and its rule: the LONGEST that was. BAD: n is not 1 .. 300, rule is not 0, 1." */
    private static void longestAndItsRule() {
        TokenMachines m = Check.machine("aa b");
        Check.due("8: 1, 0", m.longest(1, 0), 300);
        Check.due("8: cut", m.tokens(0, 0, 0), 3);
        int[][] wrong = {{0, 0}, {0, 1}, {-1, 0}, {301, 0}, {301, 1}, {LEAST, 0}, {MOST, 1}, {300, -1}, {300, 2},
            {1, -1}, {1, 2}, {2, LEAST}, {2, MOST}, {0, 2}, {301, -1}};
        for (int[] pair : wrong) {
            Check.due("8: " + pair[0] + ", " + pair[1], m.longest(pair[0], pair[1]), BAD);
            Check.due("8: both stay", m.tokens(0, 0, 0), 3);
        }
        Check.due("8: 1, 1", m.longest(1, 1), 1);
        Check.due("8: dropped", m.tokens(0, 0, 0), 1);
        for (int[] pair : wrong) {
            Check.due("8: " + pair[0] + ", " + pair[1], m.longest(pair[0], pair[1]), BAD);
            Check.due("8: both stay dropped", m.tokens(0, 0, 0), 1);
        }
        Check.due("8: 300, 1", m.longest(300, 1), 1);
        Check.due("8: the TOKENS stay", m.count(1), 1);
        Check.due("8: 2, 0", m.longest(2, 0), 300);
        Check.due("8: the rule changes alone", m.longest(2, 1), 2);
    }

    /** "BAD: way is not 0 .. 8" */
    private static void theWays() {
        TokenMachines m = Check.machine("a! b");
        int[] due = {2, 2, 2, 0, 2, 2, 2, 2, 1};
        for (int way = 0; way <= 8; way++) {
            Check.due("9: way " + way, m.tokens(way, 1, 1), due[way]);
            Check.due("9: they are counted", m.count(1), due[way]);
        }
        m.tokens(0, 0, 0);
        for (int way : new int[] {-1, 9, 10, LEAST, MOST}) {
            Check.due("9: way " + way, m.tokens(way, 1, 1), BAD);
            Check.due("9: the TOKENS stay", Check.brief(m), "a@0 b@1");
        }
    }

    /** "for 5, 6: a is not 1 .. 300, b not a .. 300" */
    private static void theSizes() {
        TokenMachines m = Check.machine("ab");
        int[][] taken = {{1, 1}, {1, 2}, {1, 300}, {2, 2}, {2, 300}, {299, 299}, {299, 300}, {300, 300}};
        int[][] due = {{2, 3, 3, 1, 1, 0, 0, 0}, {1, 2, 2, 1, 1, 0, 0, 0}};
        int[][] wrong = {{0, 0}, {0, 1}, {0, 300}, {-1, 1}, {1, 0}, {1, 301}, {2, 1}, {300, 299}, {300, 301},
            {301, 301}, {301, 300}, {301, 1}, {LEAST, 1}, {1, MOST}, {MOST, MOST}, {1, LEAST}, {LEAST, LEAST}};
        for (int way = 5; way <= 6; way++) {
            for (int i = 0; i < taken.length; i++) {
                Check.due("9: way " + way + ", " + taken[i][0] + " .. " + taken[i][1],
                        m.tokens(way, taken[i][0], taken[i][1]), due[way - 5][i]);
            }
            m.tokens(way, 2, 2);
            for (int[] sizes : wrong) {
                Check.due("9: way " + way + ", " + sizes[0] + " .. " + sizes[1],
                        m.tokens(way, sizes[0], sizes[1]), BAD);
                Check.due("9: the TOKENS stay", Check.brief(m), "ab@0");
            }
        }
        for (int way : new int[] {0, 1, 2, 4, 7}) {
            for (int[] sizes : wrong) {
                Check.due("9: of way " + way + " they are none", m.tokens(way, sizes[0], sizes[1]), 1);
            }
        }
        Check.due("9: of way 3 they are none", m.tokens(3, 0, 301), 0);
        Check.due("9: of way 8 they are none", m.tokens(8, 0, 301), 0);
    }

    private static void isFull(TokenMachines m, int way, int a, int b) {
        m.tokens(1, 0, 0);
        Check.due("9: 401 of way " + way, m.tokens(way, a, b), FULL);
        Check.due("9: no TOKENS then", m.count(1), 0);
        Check.due("9: no first one", m.token(0, 0), BAD);
        Check.due("9: no last one", m.token(399, 0), BAD);
        Check.due("9: no SIGN", m.sign(0, 0), BAD);
        Check.due("9: no two of them", m.same(0, 1), BAD);
        Check.due("9: the text stays", m.count(0) > 0 ? 1 : 0, 1);
    }

    /** "FULL: more than 400 (no TOKENS then)." */
    private static void fourHundredOfWay5() {
        TokenMachines m = Check.machine("a".repeat(200) + " a");
        Check.due("9: 400 of way 5", m.tokens(5, 1, 2), 400);
        Check.due("9: the last one's place", m.token(399, 0), 201);
        Check.due("9: the last one's end", m.token(399, 1), 202);
        Check.due("9: the last one's POSITION", m.token(399, 2), 200);
        Check.due("9: there is none behind it", m.token(400, 0), BAD);
        isFull(Check.machine("a".repeat(201)), 5, 1, 2);
        isFull(Check.machine("a".repeat(300)), 5, 1, 300);
        TokenMachines n = Check.machine("a".repeat(201) + " b");
        isFull(n, 5, 1, 2);
        Check.due("9: the next ones come again", n.tokens(0, 0, 0), 2);
        isFull(n, 5, 1, 2);
        Check.due("9: BAD is ahead of FULL, leaves none", n.tokens(5, 0, 2), BAD);
        Check.due("9: none yet", n.count(1), 0);
    }

    /** Cut into ones, rows of 27, 5, 3, 1 SIGNS give 378 + 15 + 6 + 1 TOKENS by ways 4 and 6. */
    private static void fourHundredOfOthers() {
        TokenMachines paths = Check.machine("/".repeat(27) + " ///// /// /");
        paths.longest(1, 0);
        Check.due("9: 400 of way 4", paths.tokens(4, 0, 0), 400);
        Check.give(paths, "/".repeat(27) + " ///// /// / /");
        isFull(paths, 4, 0, 0);
        TokenMachines beginnings = Check.machine("a".repeat(27) + " aaaaa aaa a");
        beginnings.longest(1, 0);
        Check.due("9: 400 of way 6", beginnings.tokens(6, 1, 300), 400);
        Check.give(beginnings, "a".repeat(27) + " aaaaa aaa a a");
        isFull(beginnings, 6, 1, 300);
        TokenMachines pairs = Check.machine("!".repeat(201));
        pairs.longest(1, 0);
        Check.due("9: 400 of way 8", pairs.tokens(8, 0, 0), 400);
        Check.give(pairs, "!".repeat(201) + " !");
        isFull(pairs, 8, 0, 0);
    }

    private static void whatCountsAndWhatDoesNot() {
        TokenMachines m = Check.machine("a".repeat(300));
        m.longest(1, 1);
        Check.due("9: dropped ones are no TOKENS", m.tokens(5, 1, 300), 300);
        m.longest(1, 0);
        Check.due("9: pieces of cut ones are", m.tokens(5, 1, 300), FULL);
        Check.due("9: 300 pieces of one", m.tokens(0, 0, 0), 300);
        Check.give(m, "a".repeat(134));
        Check.due("9: 134 and 133 cut into two", m.tokens(5, 1, 2), 400);
        Check.give(m, "a".repeat(134) + " a");
        Check.due("9: one more", m.tokens(5, 1, 2), FULL);
        m.longest(1, 1);
        Check.due("9: not cut, but dropped", m.tokens(5, 1, 2), 135);
    }

    /** "0 its place, 1 its end, 2 its POSITION; BAD: none such, or what" */
    private static void whichToken() {
        TokenMachines m = Check.machine(" ab c");
        Check.due("10: none yet", m.token(0, 0), BAD);
        m.tokens(0, 0, 0);
        int[][] due = {{1, 3, 0}, {4, 5, 1}};
        for (int k = 0; k < 2; k++) {
            for (int what = 0; what < 3; what++) {
                Check.due("10: " + k + ", " + what, m.token(k, what), due[k][what]);
            }
            for (int what : new int[] {-1, 3, LEAST, MOST}) {
                Check.due("10: " + k + ", " + what, m.token(k, what), BAD);
            }
        }
        for (int k : new int[] {-1, 2, 400, LEAST, MOST}) {
            for (int what = -1; what <= 3; what++) {
                Check.due("10: " + k + ", " + what, m.token(k, what), BAD);
            }
        }
        m.tokens(6, 2, 2);
        Check.due("10: one is left", m.token(0, 1), 3);
        Check.due("10: the second one is not", m.token(1, 1), BAD);
    }

    /** "SIGN i of a TOKEN (0 .. 255); BAD: none such." */
    private static void whichSign() {
        TokenMachines m = Check.machine("a\u0000\u00ff b");
        Check.due("11: none yet", m.sign(0, 0), BAD);
        m.tokens(1, 0, 0);
        Check.due("11: the first one", m.sign(0, 0), 97);
        Check.due("11: 0", m.sign(0, 1), 0);
        Check.due("11: 255, the last one", m.sign(0, 2), 255);
        Check.due("11: behind it there is one of the text", m.sign(0, 3), BAD);
        Check.due("11: the second TOKEN's", m.sign(1, 0), 98);
        Check.due("11: the text's end", m.sign(1, 1), BAD);
        Check.due("11: before it there is one of the text", m.sign(1, -1), BAD);
        for (int k : new int[] {-1, 2, 400, LEAST, MOST}) {
            Check.due("11: TOKEN " + k, m.sign(k, 0), BAD);
        }
        for (int i : new int[] {-1, 300, LEAST, MOST}) {
            Check.due("11: SIGN " + i, m.sign(0, i), BAD);
        }
        TokenMachines n = Check.machine("x".repeat(299) + "y");
        n.tokens(1, 0, 0);
        Check.due("11: SIGN 299", n.sign(0, 299), 'y');
        Check.due("11: SIGN 300", n.sign(0, 300), BAD);
    }

    /** "Whether a TOKEN has the same SIGNS as another one: 1, 0. BAD: no such TOKENS." */
    private static void whichTwo() {
        TokenMachines m = Check.machine("ab,abc aB b bb ab");
        Check.due("12: none yet", m.same(0, 0), BAD);
        m.tokens(0, 0, 0);
        int[][] due = {{1, 0, 0, 0, 0, 1}, {0, 1, 0, 0, 0, 0}, {0, 0, 1, 0, 0, 0}, {0, 0, 0, 1, 0, 0},
            {0, 0, 0, 0, 1, 0}, {1, 0, 0, 0, 0, 1}};
        for (int k = 0; k < 6; k++) {
            for (int other = 0; other < 6; other++) {
                Check.due("12: " + k + ", " + other, m.same(k, other), due[k][other]);
            }
        }
        for (int wrong : new int[] {-1, 6, 400, LEAST, MOST}) {
            Check.due("12: the first one is " + wrong, m.same(wrong, 0), BAD);
            Check.due("12: the other one is " + wrong, m.same(0, wrong), BAD);
            Check.due("12: both are " + wrong, m.same(wrong, wrong), BAD);
        }
        TokenMachines n = Check.machine("ab/ab");
        n.tokens(4, 0, 0);
        Check.due("12: of one place, another length", n.same(0, 1), 0);
    }

    /** "NO: a BLANK is there. BAD: no such place." */
    private static void whichPlaceCosts() {
        TokenMachines m = Check.machine("a \t\nb");
        Check.due("13: the first place", m.cost(0), 100);
        Check.due("13: 32", m.cost(1), NO);
        Check.due("13: 9", m.cost(2), NO);
        Check.due("13: 10", m.cost(3), NO);
        Check.due("13: the last place", m.cost(4), 100);
        for (int place : new int[] {-1, 5, 300, 301, LEAST, MOST}) {
            Check.due("13: place " + place, m.cost(place), BAD);
        }
        TokenMachines n = Check.machine(" ".repeat(300));
        Check.due("13: place 299", n.cost(299), NO);
        Check.due("13: place 300", n.cost(300), BAD);
    }

    /** "The least sum of COSTS for the row of SIGNS that are no BLANKS, as long as can be, that a place is in" */
    private static void whichRowCosts() {
        TokenMachines m = Check.machine("abx ab\tx\nabab");
        Check.word(m, "ab", 7);
        int[] due = {107, 107, 107, NO, 7, 7, NO, 100, NO, 14, 14, 14, 14, BAD};
        for (int place = 0; place < due.length; place++) {
            Check.due("13: place " + place, m.cost(place), due[place]);
        }
        TokenMachines n = Check.machine("x".repeat(300));
        n.strange(1000);
        Check.due("13: the dearest row, its first place", n.cost(0), 300000);
        Check.due("13: the dearest row, its last place", n.cost(299), 300000);
        n.strange(1);
        Check.due("13: the cheapest of 300", n.cost(150), 300);
        Check.give(n, "xx x");
        Check.due("13: a short row after a long one", n.cost(0), 2);
        Check.due("13: the last place's row", n.cost(3), 1);
    }

    /** "from a place on .. BAD: no such place" */
    private static void whichPlaceMatches() {
        TokenMachines m = Check.machine("ab b");
        Check.pattern(m, "b *");
        int[] due = {0, 2, 0, 1, BAD};
        for (int place = 0; place < due.length; place++) {
            Check.due("14: place " + place, m.match(place), due[place]);
        }
        for (int place : new int[] {-1, 5, 300, LEAST, MOST}) {
            Check.due("14: place " + place, m.match(place), BAD);
        }
        TokenMachines n = Check.machine("a".repeat(300));
        Check.pattern(n, "a");
        Check.due("14: place 299", n.match(299), 1);
        Check.due("14: place 300", n.match(300), BAD);
    }

    /** "The longest row of one SIGN or more .. 0: none does." */
    private static void theLongestMatch() {
        TokenMachines m = Check.machine("aab");
        Check.pattern(m, "b*");
        Check.due("14: a row of no SIGN is none", m.match(0), 0);
        Check.pattern(m, "a*");
        Check.due("14: two", m.match(0), 2);
        Check.due("14: one", m.match(1), 1);
        Check.due("14: none", m.match(2), 0);
        Check.pattern(m, "a|aab|aa");
        Check.due("14: to the text's end", m.match(0), 3);
        Check.pattern(m, "aabb|a");
        Check.due("14: not over the text's end", m.match(0), 1);
        TokenMachines n = Check.machine("a".repeat(300));
        Check.pattern(n, "(a|aa)*");
        Check.due("14: 300", n.match(0), 300);
        Check.due("14: 299", n.match(1), 299);
    }

    /** "0 SIGNS of THE TEXT, 1 TOKENS, 2 bytes of the TAPE, 3 ATOMS of THE PATTERN, 4 WORDS. BAD: another what." */
    private static void whichCount() {
        TokenMachines m = Check.machine("a b c d e");
        m.tokens(0, 0, 0);
        Check.pattern(m, "abc");
        Check.word(m, "x", 1);
        Check.feed(m, "yy");
        int[] due = {9, 5, 2, 3, 1};
        for (int what = 0; what <= 4; what++) {
            Check.due("15: " + what, m.count(what), due[what]);
        }
        for (int what : new int[] {-1, 5, 6, LEAST, MOST}) {
            Check.due("15: " + what, m.count(what), BAD);
        }
    }

    /** "An object is used for at most 512 calls after it has been made": the last ones answer as the first ones. */
    private static void fiveHundredAndTwelveCalls() {
        TokenMachines m = new TokenMachines();
        for (int round = 0; round < 128; round++) {
            Check.due("call " + (4 * round + 1), m.feed(5, 0x6220622b61L), 5);
            Check.due("call " + (4 * round + 2), round % 2 == 0 ? m.text() : m.pattern(), round % 2 == 0 ? 5 : 4);
            Check.due("call " + (4 * round + 3), m.tokens(1, 0, 0), 2);
            Check.due("call " + (4 * round + 4), m.cost(0), 300);
        }
    }
}
