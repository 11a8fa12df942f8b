/** Promises 10, 11, 12: what is told of the TOKENS that there are. */
public final class TokenTest {
    public static void main(String[] args) {
        token();
        sign();
        same();
        Check.end("TokenTest");
    }

    private static void token() {
        TokenMachines m = Check.machine(" ab cde");
        Check.due("10: before tokens", m.token(0, 0), TokenMachines.BAD);
        m.tokens(0, 0, 0);
        Check.due("10: place", m.token(1, 0), 4);
        Check.due("10: end", m.token(1, 1), 7);
        Check.due("10: position", m.token(1, 2), 1);
        Check.due("10: first place", m.token(0, 0), 1);
        Check.due("10: first end", m.token(0, 1), 3);
        Check.due("10: first position", m.token(0, 2), 0);
        Check.due("10: what 3", m.token(1, 3), TokenMachines.BAD);
        Check.due("10: what -1", m.token(1, -1), TokenMachines.BAD);
        Check.due("10: token 2", m.token(2, 0), TokenMachines.BAD);
        Check.due("10: token -1", m.token(-1, 0), TokenMachines.BAD);
        Check.due("10: far", m.token(Integer.MAX_VALUE, 0), TokenMachines.BAD);
        m.tokens(1, 0, 0);
        m.tokens(6, 3, 3);
        Check.due("10: of the last tokens alone", m.token(1, 0), TokenMachines.BAD);
        Check.due("10: the only one", m.token(0, 0), 4);
    }

    private static void sign() {
        TokenMachines m = Check.machine("a \u0000\u00ff\u0080");
        m.tokens(1, 0, 0);
        Check.due("11: a", m.sign(0, 0), 97);
        Check.due("11: behind it", m.sign(0, 1), TokenMachines.BAD);
        Check.due("11: 0", m.sign(1, 0), 0);
        Check.due("11: 255", m.sign(1, 1), 255);
        Check.due("11: 128", m.sign(1, 2), 128);
        Check.due("11: sign 3", m.sign(1, 3), TokenMachines.BAD);
        Check.due("11: sign -1", m.sign(1, -1), TokenMachines.BAD);
        Check.due("11: far", m.sign(1, Integer.MAX_VALUE), TokenMachines.BAD);
        Check.due("11: token 2", m.sign(2, 0), TokenMachines.BAD);
        Check.due("11: token -1", m.sign(-1, 0), TokenMachines.BAD);
        m.text();
        Check.due("11: gone", m.sign(0, 0), TokenMachines.BAD);
    }

    private static void same() {
        TokenMachines m = Check.machine("ab abc ab aB bb");
        m.tokens(0, 0, 0);
        Check.due("12: itself", m.same(1, 1), 1);
        Check.due("12: same", m.same(0, 2), 1);
        Check.due("12: same, turned", m.same(2, 0), 1);
        Check.due("12: longer", m.same(0, 1), 0);
        Check.due("12: shorter", m.same(1, 0), 0);
        Check.due("12: another sign", m.same(0, 3), 0);
        Check.due("12: another first sign", m.same(0, 4), 0);
        Check.due("12: no such other", m.same(0, 5), TokenMachines.BAD);
        Check.due("12: no such one", m.same(5, 0), TokenMachines.BAD);
        Check.due("12: -1", m.same(-1, 0), TokenMachines.BAD);
        Check.due("12: 0 and -1", m.same(0, -1), TokenMachines.BAD);
        Check.due("12: neither", m.same(9, 9), TokenMachines.BAD);
    }
}
