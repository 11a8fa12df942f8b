/** The document's "Terms", 1: each sentence on POSITIONS, LONGEST and its rule that names a boundary case. */
public final class LongestEdgesTest {
    public static void main(String[] args) {
        firstPosition();
        oneMore();
        samePlaceSamePosition();
        longestAtFirst();
        cutInto();
        cutPositions();
        dropped();
        freePositions();
        piecesOfOnePosition();
        droppedOfOnePlace();
        Check.end("LongestEdgesTest");
    }

    /** "a TOKEN's is one more than that of the one before (the first one's 0)": each way begins with 0. */
    private static void firstPosition() {
        TokenMachines m = Check.machine("ab,, /x");
        Check.pattern(m, ".");
        for (int way = 0; way <= 8; way++) {
            m.tokens(way, 1, 2);
            Check.due("the first one's, way " + way, m.token(0, 2), 0);
            m.tokens(way, 1, 2);
            Check.due("anew each time, way " + way, m.token(0, 2), 0);
        }
    }

    private static void oneMore() {
        Check.due("way 0", Check.cut("a b c", 0), "a@0 b@1 c@2");
        Check.due("way 1", Check.cut("a b c", 1), "a@0 b@1 c@2");
        Check.due("way 2", Check.cut("a b c", 2), "a@0 b@1 c@2");
        Check.due("way 7", Check.cut("a b c", 7), "a@0 b@1 c@2");
        Check.due("way 8", Check.cut("!? !", 8), "!?@0 !@1");
        TokenMachines m = Check.machine("aa");
        Check.pattern(m, "a");
        m.tokens(3, 0, 0);
        Check.due("way 3", Check.brief(m), "a@0 a@1");
        TokenMachines n = Check.machine("a".repeat(300));
        n.longest(1, 0);
        n.tokens(0, 0, 0);
        Check.due("the 300th one's", n.token(299, 2), 299);
    }

    /** "of ways 4, 5, 6 TOKENS that begin at the same place have the same one" */
    private static void samePlaceSamePosition() {
        Check.due("way 4", Check.cut("a/b c/d", 4), "a@0 a/b@0 c@1 c/d@1");
        Check.due("way 5", Check.cut("ab c", 5, 1, 2), "a@0 ab@0 b@1 c@2");
        Check.due("way 6", Check.cut("ab c", 6, 1, 2), "a@0 ab@0 c@1");
        Check.due("places without a TOKEN have none", Check.cut("abc de", 5, 2, 2), "ab@0 bc@1 de@2");
        Check.due("rows without a TOKEN have none", Check.cut("a bc d ef", 6, 2, 2), "bc@0 ef@1");
        Check.due("way 8 is none of them", Check.cut("!!!", 8), "!!@0 !!@1");
    }

    /** "LONGEST (300 at first), rule 0 (at first)" */
    private static void longestAtFirst() {
        TokenMachines m = Check.machine("a".repeat(300));
        Check.due("300 are not too long", m.tokens(1, 0, 0), 1);
        Check.due("all of them", m.token(0, 1), 300);
        Check.due("it was 300", m.longest(299, 0), 300);
        Check.due("299 cut it", m.tokens(1, 0, 0), 2);
        Check.due("the first one's end", m.token(0, 1), 299);
        Check.due("the rest's end", m.token(1, 1), 300);
        m.longest(299, 1);
        Check.due("299 drop it", m.tokens(1, 0, 0), 0);
        m.longest(300, 1);
        Check.due("300 do not drop it", m.tokens(1, 0, 0), 1);
    }

    /** "a longer TOKEN is cut into such of LONGEST SIGNS and a rest" */
    private static void cutInto() {
        Check.due("one less", Check.cutWithin(3, 0, "ab", 0, 0, 0), "ab@0");
        Check.due("as long", Check.cutWithin(3, 0, "abc", 0, 0, 0), "abc@0");
        Check.due("one more", Check.cutWithin(3, 0, "abcd", 0, 0, 0), "abc@0 d@1");
        Check.due("twice less one", Check.cutWithin(3, 0, "abcde", 0, 0, 0), "abc@0 de@1");
        Check.due("twice, no rest", Check.cutWithin(3, 0, "abcdef", 0, 0, 0), "abc@0 def@1");
        Check.due("twice and one", Check.cutWithin(3, 0, "abcdefg", 0, 0, 0), "abc@0 def@1 g@2");
        Check.due("ones", Check.cutWithin(1, 0, "abc", 0, 0, 0), "a@0 b@1 c@2");
        Check.due("way 1", Check.cutWithin(2, 0, "a-b", 1, 0, 0), "a-@0 b@1");
        Check.due("way 2", Check.cutWithin(2, 0, "a'b", 2, 0, 0), "a'@0 b@1");
        Check.due("way 7, STRANGE ones", Check.cutWithin(2, 0, "xyz", 7, 0, 0), "xy@0 z@1");
        Check.due("way 8", Check.cutWithin(1, 0, "!?", 8, 0, 0), "!@0 ?@1");
    }

    /** "each of which is a TOKEN with a POSITION of its own" */
    private static void cutPositions() {
        Check.due("the next one's goes on", Check.cutWithin(2, 0, "abcde f", 0, 0, 0), "ab@0 cd@1 e@2 f@3");
        Check.due("the one before", Check.cutWithin(2, 0, "a bcd", 0, 0, 0), "a@0 bc@1 d@2");
        TokenMachines m = Check.machine("abc");
        m.longest(2, 0);
        m.tokens(0, 0, 0);
        Check.due("their places", Check.shown(m), "ab:0-2@0;c:2-3@1;");
    }

    /** "1: it is dropped" */
    private static void dropped() {
        Check.due("one less", Check.cutWithin(3, 1, "ab", 0, 0, 0), "ab@0");
        Check.due("as long", Check.cutWithin(3, 1, "abc", 0, 0, 0), "abc@0");
        Check.due("one more", Check.cutWithin(3, 1, "abcd", 0, 0, 0), "");
        Check.due("way 1", Check.cutWithin(2, 1, "a-b a-", 1, 0, 0), "a-@1");
        Check.due("way 2", Check.cutWithin(2, 1, "a'b a1", 2, 0, 0), "a1@1");
        Check.due("way 7", Check.cutWithin(2, 1, "xyz xy", 7, 0, 0), "xy@1");
        Check.due("way 8", Check.cutWithin(1, 1, "!? !", 8, 0, 0), "!@1");
        TokenMachines m = Check.machine("aaab");
        Check.pattern(m, "a+|b");
        m.longest(2, 1);
        m.tokens(3, 0, 0);
        Check.due("way 3 goes on at its end", Check.shown(m), "b:3-4@1;");
    }

    /** "its POSITION stays free" */
    private static void freePositions() {
        Check.due("the first one's", Check.cutWithin(1, 1, "aa b", 0, 0, 0), "b@1");
        Check.due("one within", Check.cutWithin(1, 1, "a bb c", 0, 0, 0), "a@0 c@2");
        Check.due("two within", Check.cutWithin(1, 1, "a bb cc d", 0, 0, 0), "a@0 d@3");
        Check.due("the last one's", Check.cutWithin(1, 1, "a bb", 0, 0, 0), "a@0");
        Check.due("one, however long it is", Check.cutWithin(1, 1, "aaaaaaaa b", 0, 0, 0), "b@1");
    }

    /** "By 4, 5, 6: pieces have all its POSITION" */
    private static void piecesOfOnePosition() {
        Check.due("way 4", Check.cutWithin(2, 0, "ab/cd e", 4, 0, 0), "ab@0 ab@0 /c@0 d@0 e@1");
        Check.due("way 5", Check.cutWithin(2, 0, "abcd", 5, 3, 3), "ab@0 c@0 bc@1 d@1");
        Check.due("way 6", Check.cutWithin(2, 0, "abc def", 6, 2, 3), "ab@0 ab@0 c@0 de@1 de@1 f@1");
        Check.due("twice, no rest", Check.cutWithin(2, 0, "abcd e", 4, 0, 0), "ab@0 cd@0 e@1");
        Check.due("as long as LONGEST", Check.cutWithin(3, 0, "abc d", 4, 0, 0), "abc@0 d@1");
    }

    private static void droppedOfOnePlace() {
        Check.due("way 4, some", Check.cutWithin(2, 1, "ab/c d", 4, 0, 0), "ab@0 d@1");
        Check.due("way 4, all", Check.cutWithin(1, 1, "ab/c d", 4, 0, 0), "d@1");
        Check.due("way 5, some", Check.cutWithin(1, 1, "abc", 5, 1, 2), "a@0 b@1 c@2");
        Check.due("way 5, none", Check.cutWithin(2, 1, "ab", 5, 2, 2), "ab@0");
        Check.due("way 6, some", Check.cutWithin(2, 1, "abc def", 6, 2, 3), "ab@0 de@1");
        Check.due("way 6, all", Check.cutWithin(2, 1, "abc def", 6, 3, 3), "");
        TokenMachines m = Check.machine("abc/d ef");
        m.longest(2, 1);
        m.tokens(4, 0, 0);
        Check.due("one POSITION stays free, not two", Check.shown(m), "ef:6-8@1;");
    }
}
