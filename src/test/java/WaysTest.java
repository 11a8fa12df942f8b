/** Promise 9: the nine ways, LINKS, POSITIONS, LONGEST, and what is refused. */
public final class WaysTest {
    public static void main(String[] args) {
        letters();
        blanks();
        words();
        links();
        matches();
        paths();
        rows();
        beginnings();
        pieces();
        pairs();
        sharedPositions();
        wrongNumbers();
        full();
        Check.end("WaysTest");
    }

    private static void cut(String text, int way, String want) {
        TokenMachines m = Check.machine(text);
        m.tokens(way, 0, 0);
        Check.due("9: way " + way + " of " + text, Check.brief(m), want);
    }

    private static void link(String text, String want) {
        TokenMachines m = Check.machine(text);
        m.links(true);
        m.tokens(2, 0, 0);
        Check.due("9: links of " + text, Check.brief(m), want);
    }

    private static void sized(String text, int way, int a, int b, String want) {
        TokenMachines m = Check.machine(text);
        m.tokens(way, a, b);
        Check.due("9: way " + way + " of " + text + " " + a + ".." + b, Check.brief(m), want);
    }

    private static void letters() {
        cut("", 0, "");
        cut("abc", 0, "abc@0");
        cut("1aZ2zA_b", 0, "aZ@0 zA@1 b@2");
        cut("@A[`a{Z", 0, "A@0 a@1 Z@2");
        cut("\u00e9a\u00ff", 0, "a@0");
        cut("123 .", 0, "");
    }

    private static void blanks() {
        cut(" a1\tb,\nc\rd  e ", 1, "a1@0 b,@1 c\rd@2 e@3");
        cut("\u0000\u000b \u00a0", 1, "\u0000\u000b@0 \u00a0@1");
        cut(" \t\n", 1, "");
    }

    private static void words() {
        cut("don't o'", 2, "don't@0 o@1");
        cut("'a' 'tis", 2, "a@0 tis@1");
        cut("a.b a.1 1.a 1.2", 2, "a.b@0 a@1 1@2 1@3 a@4 1.2@5");
        cut("1,000.5, 1,a a,b", 2, "1,000.5@0 1@1 a@2 a@3 b@4");
        cut("1'2 a''b a..b", 2, "1@0 2@1 a@2 b@3 a@4 b@5");
        cut("_a_1 __ _.a a._ -", 2, "_a_1@0 __@1 _@2 a@3 a@4 _@5");
        cut("a.b.c.", 2, "a.b.c@0");
        cut("0.9 9,0 /.9 :,9 9.:", 2, "0.9@0 9,0@1 9@2 9@3 9@4");
        cut("z.Z A'a [.a `'z", 2, "z.Z@0 A'a@1 a@2 z@3");
        cut("me@x.org www.x", 2, "me@0 x.org@1 www.x@2");
    }

    private static void links() {
        link("me@x.org! b", "me@x.org!@0 b@1");
        link("@x x@ a@@ @@ @@@", "x@0 x@1 a@@@2 @@@@3");
        link("@a@ @a@b", "a@0 @a@b@1");
        link("www. www.x www.- xwww.y WWW.y-", "www@0 www.x@1 www.-@2 xwww.y@3 WWW.y@4");
        link("wwx.y-z wxw.y-z xww.y-z www,y-z", "wwx.y@0 z@1 wxw.y@2 z@3 xww.y@4 z@5 www@6 y@7 z@8");
        link("wwww.y-z ww.y-z w", "wwww.y@0 z@1 ww.y@2 z@3 w@4");
        link("(www.x-y) -www.x", "www.x@0 y@1 www.x@2");
        link("www.a/b?c=d\nwww./\te", "www.a/b?c=d@0 www./@1 e@2");
        link("x www.@ y", "x@0 www.@@1 y@2");
        link("a-b c@d-e", "a@0 b@1 c@d-e@2");
        link("a\rb@c d", "a\rb@c@0 d@1");
        TokenMachines m = Check.machine("a@b www.c");
        m.links(true);
        m.tokens(1, 0, 0);
        m.tokens(0, 0, 0);
        Check.due("9: links are of way 2 alone", Check.brief(m), "a@0 b@1 www@2 c@3");
        m.longest(2, 0);
        m.tokens(2, 0, 0);
        Check.due("9: links are cut", Check.brief(m), "a@@0 b@1 ww@2 w.@3 c@4");
        m.longest(3, 1);
        m.tokens(2, 0, 0);
        Check.due("9: links are dropped", Check.brief(m), "a@b@0");
    }

    private static void matches() {
        TokenMachines m = Check.machine("abcab ba");
        Check.pattern(m, "ab|abc|b ");
        m.tokens(3, 0, 0);
        Check.due("9: pattern", Check.shown(m), "abc:0-3@0;ab:3-5@1;");
        Check.pattern(m, "a*");
        m.tokens(3, 0, 0);
        Check.due("9: no empty ones", Check.shown(m), "a:0-1@0;a:3-4@1;a:7-8@2;");
        Check.pattern(m, ".+");
        m.tokens(3, 0, 0);
        Check.due("9: up to blanks", Check.shown(m), "abcab:0-5@0;ba:6-8@1;");
        Check.pattern(m, "(.| )+");
        m.longest(3, 0);
        m.tokens(3, 0, 0);
        Check.due("9: over blanks, cut", Check.shown(m), "abc:0-3@0;ab :3-6@1;ba:6-8@2;");
        Check.pattern(m, "[abc]+");
        m.longest(2, 1);
        m.tokens(3, 0, 0);
        Check.due("9: a dropped one is behind", Check.shown(m), "ba:6-8@1;");
        Check.pattern(m, "");
        Check.due("9: the empty one", m.tokens(3, 0, 0), 0);
    }

    private static void paths() {
        cut("/a//b x/", 4, "/a@0 /a/@0 /a//b@0 x@1 x/@1");
        cut("/ // a a/b/c", 4, "/@0 /@1 //@1 a@2 a@3 a/b@3 a/b/c@3");
        TokenMachines m = Check.machine("a/bcd e");
        m.longest(2, 0);
        m.tokens(4, 0, 0);
        Check.due("9: paths cut", Check.shown(m), "a:0-1@0;a/:0-2@0;bc:2-4@0;d:4-5@0;e:6-7@1;");
        m.longest(2, 1);
        m.tokens(4, 0, 0);
        Check.due("9: paths dropped", Check.shown(m), "a:0-1@0;e:6-7@1;");
        TokenMachines n = Check.machine("abc/d e");
        n.longest(2, 1);
        n.tokens(4, 0, 0);
        Check.due("9: a free position", Check.shown(n), "e:6-7@1;");
    }

    private static void rows() {
        sized("abcd e", 5, 2, 3, "ab@0 abc@0 bc@1 bcd@1 cd@2");
        sized("abc d", 5, 1, 1, "a@0 b@1 c@2 d@3");
        sized("a1bc", 5, 2, 300, "bc@0");
        sized("ab", 5, 3, 3, "");
        sized("ab", 5, 300, 300, "");
        TokenMachines m = Check.machine("abcd ef");
        m.longest(2, 0);
        m.tokens(5, 3, 3);
        Check.due("9: rows cut", Check.shown(m), "ab:0-2@0;c:2-3@0;bc:1-3@1;d:3-4@1;");
        m.longest(1, 1);
        m.tokens(5, 1, 2);
        Check.due("9: rows dropped", Check.brief(m), "a@0 b@1 c@2 d@3 e@4 f@5");
        m.tokens(5, 2, 3);
        Check.due("9: all dropped", m.count(1), 0);
    }

    private static void beginnings() {
        sized("abcd efg h", 6, 2, 3, "ab@0 abc@0 ef@1 efg@1");
        sized("abcd e", 6, 1, 300, "a@0 ab@0 abc@0 abcd@0 e@1");
        TokenMachines m = Check.machine("abcd efg hi");
        m.longest(2, 1);
        m.tokens(6, 3, 4);
        Check.due("9: all dropped", m.count(1), 0);
        TokenMachines n = Check.machine("abcd ef");
        n.longest(1, 0);
        n.tokens(6, 2, 3);
        Check.due("9: beginnings cut", Check.shown(n), "a:0-1@0;b:1-2@0;a:0-1@0;b:1-2@0;c:2-3@0;e:5-6@1;f:6-7@1;");
    }

    private static void pieces() {
        TokenMachines m = Check.machine("abxyab zab");
        Check.word(m, "ab", 50);
        m.tokens(7, 0, 0);
        Check.due("9: strange ones are one", Check.shown(m), "ab:0-2@0;xy:2-4@1;ab:4-6@2;z:7-8@3;ab:8-10@4;");
        Check.word(m, "x", 100);
        m.tokens(7, 0, 0);
        Check.due("9: a WORD is not strange", Check.brief(m), "ab@0 x@1 y@2 ab@3 z@4 ab@5");
        m.longest(1, 1);
        m.tokens(7, 0, 0);
        Check.due("9: pieces dropped", Check.brief(m), "x@1 y@2 z@4");
        m.longest(1, 0);
        m.tokens(7, 0, 0);
        Check.due("9: pieces cut", Check.brief(m), "a@0 b@1 x@2 y@3 a@4 b@5 z@6 a@7 b@8");
        TokenMachines n = Check.machine("pqrs");
        n.tokens(7, 0, 0);
        Check.give(n, "p q r");
        n.tokens(7, 0, 0);
        Check.due("9: strange ones of two rows", Check.brief(n), "p@0 q@1 r@2");
    }

    private static void pairs() {
        cut("#!a%&( _", 8, "#!@0 %&@1 &(@2 _@3");
        cut("--a-1-", 8, "--@0 -@1 -@2");
        cut("/0:9@A[`z{", 8, "/@0 :@1 @@2 [`@3 {@4");
        cut("....", 8, "..@0 ..@1 ..@2");
        cut("\u0000\r\u00ff a", 8, "\u0000\r@0 \r\u00ff@1");
        TokenMachines m = Check.machine("... !");
        m.longest(1, 0);
        m.tokens(8, 0, 0);
        Check.due("9: pairs cut", Check.shown(m), ".:0-1@0;.:1-2@1;.:1-2@2;.:2-3@3;!:4-5@4;");
        m.longest(1, 1);
        m.tokens(8, 0, 0);
        Check.due("9: pairs dropped", Check.shown(m), "!:4-5@2;");
    }

    private static void sharedPositions() {
        TokenMachines m = Check.machine("a b");
        m.tokens(6, 1, 1);
        Check.due("9: beginnings count", Check.brief(m), "a@0 b@1");
        m.tokens(0, 0, 0);
        Check.due("9: positions begin anew", Check.brief(m), "a@0 b@1");
        m.longest(1, 1);
        Check.give(m, "aa b cc d");
        m.tokens(0, 0, 0);
        Check.due("9: free positions", Check.brief(m), "b@1 d@3");
    }

    private static void wrongNumbers() {
        TokenMachines m = Check.machine("ab cd");
        m.tokens(0, 0, 0);
        int[][] calls = {{-1, 1, 1}, {9, 1, 1}, {Integer.MAX_VALUE, 1, 1}, {5, 0, 1}, {5, 301, 301}, {5, 2, 1},
            {5, 1, 301}, {5, -1, 5}, {6, 0, 1}, {6, 301, 301}, {6, 2, 1}, {6, 1, 301},
            {6, 1, Integer.MAX_VALUE}, {5, Integer.MIN_VALUE, 3}};
        for (int[] call : calls) {
            Check.due("9: " + call[0] + " " + call[1] + " " + call[2],
                    m.tokens(call[0], call[1], call[2]), TokenMachines.BAD);
        }
        Check.due("9: BAD changes nothing", Check.brief(m), "ab@0 cd@1");
        int[] others = {0, 1, 2, 3, 4, 7, 8};
        int[] due = {2, 2, 2, 0, 2, 2, 0};
        for (int i = 0; i < others.length; i++) {
            Check.due("9: sizes do not matter", m.tokens(others[i], -7, -9), due[i]);
        }
        Check.due("9: 300 to 300", m.tokens(5, 300, 300), 0);
    }

    private static void full() {
        TokenMachines m = Check.machine("a".repeat(200));
        Check.due("9: 200", m.tokens(5, 1, 1), 200);
        Check.due("9: 399", m.tokens(5, 1, 2), 399);
        Check.give(m, "a".repeat(200) + " a");
        Check.due("9: 400", m.tokens(5, 1, 2), 400);
        Check.due("9: the last one", m.token(399, 0), 201);
        Check.give(m, "a".repeat(200) + " a a");
        m.tokens(0, 0, 0);
        Check.due("9: 401", m.tokens(5, 1, 2), TokenMachines.FULL);
        Check.due("9: no tokens then", m.count(1), 0);
        Check.due("9: none at all", m.token(0, 0), TokenMachines.BAD);
        Check.due("9: and again", m.tokens(0, 0, 0), 3);
        m.longest(1, 1);
        Check.due("9: dropped ones do not count", m.tokens(5, 1, 300), 202);
        m.longest(1, 0);
        Check.due("9: cut ones do", m.tokens(6, 1, 28), TokenMachines.FULL);
        Check.due("9: BAD ahead of FULL", m.tokens(5, 0, 300), TokenMachines.BAD);
        Check.give(m, "!".repeat(201));
        Check.due("9: 400 halves", m.tokens(8, 0, 0), 400);
        Check.give(m, "!".repeat(202));
        Check.due("9: 402 halves", m.tokens(8, 0, 0), TokenMachines.FULL);
        m.longest(300, 0);
        Check.due("9: 201 pairs", m.tokens(8, 0, 0), 201);
    }
}
