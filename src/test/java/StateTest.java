/** Promises 1, 2, 3, 6, 7, 8, 15: a new object, the TAPE, THE TEXT, the settings, the numbers. */
public final class StateTest {
    public static void main(String[] args) {
        newObject();
        feed();
        text();
        strange();
        links();
        longest();
        count();
        Check.end("StateTest");
    }

    private static void newObject() {
        TokenMachines m = new TokenMachines();
        for (int what = 0; what <= 4; what++) {
            Check.due("1: new, count " + what, m.count(what), 0);
        }
        Check.due("1: new, token", m.token(0, 0), TokenMachines.BAD);
        Check.due("1: new, cost", m.cost(0), TokenMachines.BAD);
        Check.due("1: new, match", m.match(0), TokenMachines.BAD);
        Check.due("1: new, STRANGE cost", m.strange(7), 100);
        Check.due("1: new, LINKS", m.links(false), 0);
        Check.due("1: new, LONGEST", m.longest(5, 0), 300);
        TokenMachines n = Check.machine("abc d@e");
        Check.due("1: the empty pattern", n.match(0), 0);
        Check.due("1: the empty pattern's tokens", n.tokens(3, 0, 0), 0);
        Check.due("1: no dictionary", n.cost(0), 300);
        n.tokens(2, 0, 0);
        Check.due("1: LINKS off", Check.brief(n), "abc@0 d@1 e@2");
        Check.due("1: rule 0", n.longest(2, 0), 300);
        TokenMachines o = new TokenMachines();
        o.longest(300, 0);
        Check.due("1: empty text", o.tokens(1, 0, 0), 0);
        for (int way = 0; way <= 8; way++) {
            Check.due("1: empty text, way " + way, o.tokens(way, 1, 1), 0);
        }
    }

    private static void feed() {
        TokenMachines m = new TokenMachines();
        Check.due("2: 0 bytes", m.feed(0, 65L), TokenMachines.BAD);
        Check.due("2: -1 bytes", m.feed(-1, 65L), TokenMachines.BAD);
        Check.due("2: 9 bytes", m.feed(9, 65L), TokenMachines.BAD);
        Check.due("2: least", m.feed(Integer.MIN_VALUE, 65L), TokenMachines.BAD);
        Check.due("2: most", m.feed(Integer.MAX_VALUE, 65L), TokenMachines.BAD);
        Check.due("2: BAD changes nothing", m.count(2), 0);
        Check.due("2: two", m.feed(2, 0x7F4241L), 2);
        Check.due("2: eight", m.feed(8, 0xFF80434445464748L), 10);
        m.text();
        m.tokens(1, 0, 0);
        Check.due("2: lowest first", Check.shown(m), "ABHGFEDC\u0080\u00ff:0-10@0;");
        for (int i = 1; i <= 37; i++) {
            Check.due("2: row of eight", m.feed(8, 0L), 8 * i);
        }
        Check.due("2: too many", m.feed(5, 0L), TokenMachines.FULL);
        Check.due("2: BAD ahead of FULL", m.feed(9, 0L), TokenMachines.BAD);
        Check.due("2: FULL changes nothing", m.count(2), 296);
        Check.due("2: 300", m.feed(4, 0L), 300);
        Check.due("2: 301", m.feed(1, 0L), TokenMachines.FULL);
        Check.due("2: all become the text", m.text(), 300);
        Check.due("2: empty again", m.feed(1, 0L), 1);
    }

    private static void text() {
        TokenMachines m = new TokenMachines();
        Check.due("3: text", Check.give(m, "ab cd"), 5);
        Check.due("3: tape is empty", m.count(2), 0);
        m.tokens(0, 0, 0);
        Check.feed(m, "xyz");
        Check.due("3: tokens stay", m.count(1), 2);
        Check.due("3: the old text stays", m.sign(0, 0), 'a');
        Check.due("3: next text", m.text(), 3);
        Check.due("3: tokens are gone", m.count(1), 0);
        Check.due("3: no token", m.token(0, 0), TokenMachines.BAD);
        m.tokens(0, 0, 0);
        Check.due("3: it is the tape alone", Check.shown(m), "xyz:0-3@0;");
        Check.due("3: an empty one", m.text(), 0);
        Check.due("3: nothing is left", m.tokens(0, 0, 0), 0);
        Check.due("3: no place is left", m.cost(0), TokenMachines.BAD);
    }

    private static void strange() {
        TokenMachines m = Check.machine("abc");
        Check.due("6: 0", m.strange(0), TokenMachines.BAD);
        Check.due("6: 1001", m.strange(1001), TokenMachines.BAD);
        Check.due("6: -5", m.strange(-5), TokenMachines.BAD);
        Check.due("6: BAD changes nothing", m.cost(1), 300);
        Check.due("6: 1000", m.strange(1000), 100);
        Check.due("6: is used", m.cost(1), 3000);
        Check.due("6: 1", m.strange(1), 1000);
        Check.due("6: is used again", m.cost(1), 3);
        Check.due("6: what it was", m.strange(1), 1);
    }

    private static void links() {
        TokenMachines m = Check.machine("a@b");
        Check.due("7: on", m.links(true), 0);
        Check.due("7: tokens with", m.tokens(2, 0, 0), 1);
        Check.due("7: on again", m.links(true), 1);
        Check.due("7: off", m.links(false), 1);
        Check.due("7: the tokens stay", m.count(1), 1);
        Check.due("7: tokens without", m.tokens(2, 0, 0), 2);
        Check.due("7: off again", m.links(false), 0);
    }

    private static void longest() {
        TokenMachines m = Check.machine("abcde f");
        Check.due("8: 0", m.longest(0, 0), TokenMachines.BAD);
        Check.due("8: 301", m.longest(301, 0), TokenMachines.BAD);
        Check.due("8: rule 2", m.longest(2, 2), TokenMachines.BAD);
        Check.due("8: rule -1", m.longest(2, -1), TokenMachines.BAD);
        Check.due("8: BAD changes nothing", m.tokens(0, 0, 0), 2);
        Check.due("8: 2", m.longest(2, 0), 300);
        Check.due("8: the tokens stay", m.count(1), 2);
        m.tokens(0, 0, 0);
        Check.due("8: cut", Check.shown(m), "ab:0-2@0;cd:2-4@1;e:4-5@2;f:6-7@3;");
        Check.due("8: drop", m.longest(4, 1), 2);
        m.tokens(0, 0, 0);
        Check.due("8: dropped", Check.shown(m), "f:6-7@1;");
        Check.due("8: a BAD n keeps both", m.longest(0, 0), TokenMachines.BAD);
        Check.due("8: a BAD rule keeps both", m.longest(300, 2), TokenMachines.BAD);
        Check.due("8: dropped yet", m.tokens(0, 0, 0), 1);
        Check.due("8: 5 is not too long", m.longest(5, 1), 4);
        Check.due("8: kept", m.tokens(0, 0, 0), 2);
        Check.due("8: 300", m.longest(300, 1), 5);
        Check.due("8: 1", m.longest(1, 0), 300);
        Check.due("8: ones", m.tokens(0, 0, 0), 6);
    }

    private static void count() {
        TokenMachines m = Check.machine("one two");
        Check.pattern(m, "ab(c)");
        Check.word(m, "x", 1);
        Check.word(m, "y", 1);
        Check.feed(m, "12345");
        m.tokens(0, 0, 0);
        Check.due("15: signs", m.count(0), 7);
        Check.due("15: tokens", m.count(1), 2);
        Check.due("15: tape", m.count(2), 5);
        Check.due("15: atoms", m.count(3), 3);
        Check.due("15: words", m.count(4), 2);
        Check.due("15: -1", m.count(-1), TokenMachines.BAD);
        Check.due("15: 5", m.count(5), TokenMachines.BAD);
    }
}
