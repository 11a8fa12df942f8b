import java.util.function.Consumer;
import java.util.function.ToIntFunction;

/**
 * "BAD .. NO .. FULL ..; of several the first one here; they change nothing (but the TAPE, as told)": two
 * objects get the same calls, one of them the refused one, too; then all that can be asked is asked of both.
 */
public final class RefusedTest {
    private static final int BAD = TokenMachines.BAD;
    private static final int NO = TokenMachines.NO;
    private static final int FULL = TokenMachines.FULL;

    public static void main(String[] args) {
        feed();
        pattern();
        word();
        wordWhenFull();
        settings();
        tokens();
        questions();
        Check.end("RefusedTest");
    }

    /** A state in which nothing is as it is at first. */
    private static void prepare(TokenMachines m) {
        m.links(true);
        m.longest(4, 1);
        m.strange(33);
        Check.pattern(m, "a(b|c)*");
        Check.word(m, "abc", 40);
        Check.word(m, "d", 50);
        Check.give(m, "abcd ab@cd dd\tabcde x");
        m.tokens(2, 0, 0);
    }

    private static void prepareFull(TokenMachines m) {
        prepare(m);
        for (int i = 0; i < 38; i++) {
            Check.word(m, "w" + (char) ('0' + i), 60);
        }
    }

    private static void refused(String call, String tape, ToIntFunction<TokenMachines> refusal, int due, String left) {
        refused(RefusedTest::prepare, call, tape, refusal, due, left);
    }

    private static void refused(Consumer<TokenMachines> before, String call, String tape,
            ToIntFunction<TokenMachines> refusal, int due, String left) {
        TokenMachines one = new TokenMachines();
        before.accept(one);
        Check.feed(one, tape);
        Check.due(call, refusal.applyAsInt(one), due);
        TokenMachines other = new TokenMachines();
        before.accept(other);
        Check.feed(other, left);
        Check.due(call + " changes nothing else", everything(one), everything(other));
    }

    /**
     * Asks in an order in which what a call changes has been asked for already; of long rows only the
     * beginning, as what an object answers after 512 calls is free.
     */
    private static String everything(TokenMachines m) {
        StringBuilder all = new StringBuilder();
        for (int what = 0; what <= 4; what++) {
            all.append(m.count(what)).append(' ');
        }
        all.append(firstTokens(m));
        for (int place = 0; place < 24; place++) {
            all.append(m.match(place)).append(',').append(m.cost(place)).append(' ');
        }
        all.append("| settings ").append(m.tokens(2, 0, 0)).append(firstTokens(m));
        all.append(m.links(false)).append(' ').append(m.strange(1000)).append(' ').append(m.longest(300, 0));
        all.append("| text ").append(m.tokens(1, 0, 0)).append(firstTokens(m));
        all.append("| tape ").append(m.text()).append(' ').append(m.tokens(1, 0, 0)).append(firstTokens(m));
        return all.toString();
    }

    private static String firstTokens(TokenMachines m) {
        StringBuilder all = new StringBuilder();
        for (int k = 0; k < 8; k++) {
            all.append(" [");
            for (int what = 0; what < 3; what++) {
                all.append(m.token(k, what)).append(' ');
            }
            for (int i = 0; i < 5; i++) {
                all.append(m.sign(k, i)).append(' ');
            }
            all.append(']');
        }
        return all.toString();
    }

    private static void feed() {
        refused("2: BAD, n is 0", "xyz", m -> m.feed(0, 65L), BAD, "xyz");
        refused("2: BAD, n is 9", "xyz", m -> m.feed(9, 65L), BAD, "xyz");
        String most = "x y".repeat(98) + "12";
        refused("2: FULL", most, m -> m.feed(5, 65L), FULL, most);
        refused("2: BAD ahead of FULL", most, m -> m.feed(9, 65L), BAD, most);
    }

    private static void pattern() {
        refused("4: THE FAULT at a SIGN", "b]", TokenMachines::pattern, -11, "");
        refused("4: THE FAULT at the length", "(b|[x", TokenMachines::pattern, -15, "");
        refused("4: THE FAULT of the 61st", "b".repeat(61), TokenMachines::pattern, -70, "");
        refused("4: THE FAULT of the ninth (", "x((((((((()", TokenMachines::pattern, -19, "");
    }

    private static void word() {
        refused("5: BAD, no SIGN", "", m -> m.word(1), BAD, "");
        refused("5: BAD, 13 SIGNS", "abcdefghijklm", m -> m.word(1), BAD, "");
        refused("5: BAD, a BLANK", "b\tc", m -> m.word(1), BAD, "");
        refused("5: BAD, cost 0", "bcd", m -> m.word(0), BAD, "");
        refused("5: BAD, cost 1001", "bcd", m -> m.word(1001), BAD, "");
        refused("5: NO", "abc", m -> m.word(1), NO, "");
        refused("5: BAD ahead of NO", "abc", m -> m.word(0), BAD, "");
    }

    private static void wordWhenFull() {
        Consumer<TokenMachines> full = RefusedTest::prepareFull;
        refused(full, "5: FULL", "ab", m -> m.word(1), FULL, "");
        refused(full, "5: NO ahead of FULL", "abc", m -> m.word(1), NO, "");
        refused(full, "5: BAD ahead of NO and FULL", "abc", m -> m.word(1001), BAD, "");
        refused(full, "5: BAD ahead of FULL", "ab", m -> m.word(0), BAD, "");
        refused(full, "5: BAD by its size ahead of FULL", "abababababababab", m -> m.word(1), BAD, "");
    }

    private static void settings() {
        refused("6: BAD, 0", "t", m -> m.strange(0), BAD, "t");
        refused("6: BAD, 1001", "t", m -> m.strange(1001), BAD, "t");
        refused("8: BAD, n is 0", "t", m -> m.longest(0, 0), BAD, "t");
        refused("8: BAD, n is 301", "t", m -> m.longest(301, 0), BAD, "t");
        refused("8: BAD, rule is -1", "t", m -> m.longest(2, -1), BAD, "t");
        refused("8: BAD, rule is 2", "t", m -> m.longest(2, 2), BAD, "t");
    }

    private static void prepareMany(TokenMachines m) {
        prepare(m);
        m.longest(300, 0);
        Check.give(m, "ab".repeat(60) + " a@b");
        m.tokens(1, 0, 0);
    }

    /** As prepareMany, but no TOKENS are left, as there are none of way 8 in such a text. */
    private static void prepareNone(TokenMachines m) {
        prepareMany(m);
        m.tokens(6, 300, 300);
    }

    private static void tokens() {
        refused("9: BAD, way -1", "t", m -> m.tokens(-1, 1, 1), BAD, "t");
        refused("9: BAD, way 9", "t", m -> m.tokens(9, 1, 1), BAD, "t");
        refused("9: BAD, a is 0", "t", m -> m.tokens(5, 0, 1), BAD, "t");
        refused("9: BAD, a is 301", "t", m -> m.tokens(6, 301, 301), BAD, "t");
        refused("9: BAD, b is below a", "t", m -> m.tokens(5, 3, 2), BAD, "t");
        refused("9: BAD, b is 301", "t", m -> m.tokens(6, 1, 301), BAD, "t");
        refused(RefusedTest::prepareMany, "9: BAD ahead of FULL", "t", m -> m.tokens(5, 1, 301), BAD, "t");
        refused(RefusedTest::prepareNone, "9: FULL, no TOKENS then", "t", m -> m.tokens(5, 1, 300), FULL, "t");
        TokenMachines m = new TokenMachines();
        prepareMany(m);
        Check.due("9: there were TOKENS before FULL", m.count(1), 2);
        Check.due("9: FULL", m.tokens(5, 1, 300), FULL);
        Check.due("9: there are none then", m.count(1), 0);
    }

    private static void questions() {
        refused("10: BAD, no such TOKEN", "t", m -> m.token(99, 0), BAD, "t");
        refused("10: BAD, what", "t", m -> m.token(0, 3), BAD, "t");
        refused("11: BAD, no such TOKEN", "t", m -> m.sign(99, 0), BAD, "t");
        refused("11: BAD, no such SIGN", "t", m -> m.sign(0, 99), BAD, "t");
        refused("12: BAD", "t", m -> m.same(0, 99), BAD, "t");
        refused("13: BAD", "t", m -> m.cost(99), BAD, "t");
        refused("13: NO", "t", m -> m.cost(4), NO, "t");
        refused("14: BAD", "t", m -> m.match(99), BAD, "t");
        refused("15: BAD", "t", m -> m.count(5), BAD, "t");
        refused("13: asking changes nothing", "t", m -> m.cost(0), 73, "t");
        refused("14: asking changes nothing", "t", m -> m.match(0), 3, "t");
        refused("12: asking changes nothing", "t", m -> m.same(0, 1), 0, "t");
    }
}
