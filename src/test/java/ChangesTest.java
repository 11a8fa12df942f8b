import java.util.ArrayList;
import java.util.List;
import java.util.function.Consumer;

/**
 * What each call changes, and that it changes nothing else: of two objects with the same calls one gets
 * the call, too; then each thing that an object holds is asked for, by two new objects each time.
 */
public final class ChangesTest {
    private static final String[] THINGS =
        {"TAPE", "TEXT", "TOKENS", "PATTERN", "WORDS", "STRANGE", "LINKS", "LONGEST", "RULE"};

    public static void main(String[] args) {
        eachThingCanBeTold();
        callsThatChange();
        callsThatCut();
        callsThatAsk();
        callsAgain();
        Check.end("ChangesTest");
    }

    /** A state in which nothing is as it is at first, with something on the TAPE. */
    private static TokenMachines prepared(String tape) {
        TokenMachines m = new TokenMachines();
        m.links(true);
        m.longest(4, 1);
        m.strange(33);
        Check.pattern(m, "a(b|c)*");
        Check.word(m, "abc", 40);
        Check.word(m, "d", 20);
        Check.give(m, "abc/d ab@c !!\tabcde x");
        m.tokens(2, 0, 0);
        Check.feed(m, tape);
        return m;
    }

    /** Asking may change the object: it is not used again. */
    private static String ask(TokenMachines m, String thing) {
        switch (thing) {
            case "TAPE":
                return m.count(2) + " " + solid(m, m.text());
            case "TEXT":
                return solid(m, m.count(0));
            case "TOKENS":
                return Check.shown(m);
            case "PATTERN":
                return matches(m);
            case "WORDS":
                return costs(m);
            case "STRANGE":
                return "" + m.strange(1);
            case "LINKS":
                return "" + m.links(false);
            case "LONGEST":
                return "" + m.longest(1, 1);
            default:
                m.text();
                Check.give(m, "a".repeat(300));
                return m.tokens(0, 0, 0) > 0 ? "cut" : "dropped";
        }
    }

    private static String solid(TokenMachines m, int many) {
        m.longest(300, 0);
        m.tokens(1, 0, 0);
        return many + " " + Check.shown(m);
    }

    private static String matches(TokenMachines m) {
        StringBuilder all = new StringBuilder().append(m.count(3));
        m.text();
        Check.give(m, "abcacb ba(b|c)*xx");
        for (int place = 0; place < 17; place++) {
            all.append(' ').append(m.match(place));
        }
        return all.toString();
    }

    private static String costs(TokenMachines m) {
        StringBuilder all = new StringBuilder().append(m.count(4));
        m.strange(1000);
        m.text();
        Check.give(m, "abc d xx ab (b");
        for (int place = 0; place < 14; place++) {
            all.append(' ').append(m.cost(place));
        }
        return all.toString();
    }

    private static void changes(String call, String tape, Consumer<TokenMachines> made, String... due) {
        List<String> seen = new ArrayList<>();
        for (String thing : THINGS) {
            TokenMachines one = prepared(tape);
            made.accept(one);
            if (!ask(one, thing).equals(ask(prepared(tape), thing))) {
                seen.add(thing);
            }
        }
        Check.due(call + " changes", seen.toString(), List.of(due).toString());
    }

    private static void holds(String thing, String due) {
        Check.due("what is held: " + thing, ask(prepared("xx"), thing), due);
    }

    /** What is asked for is what was set, so that a thing that is lost is seen, too. */
    private static void eachThingCanBeTold() {
        holds("TAPE", "2 2 xx:0-2@0;");
        holds("TEXT", "21 abc/d:0-5@0;ab@c:6-10@1;!!:11-13@2;abcde:14-19@3;x:20-21@4;");
        holds("TOKENS", "abc:0-3@0;d:4-5@1;ab@c:6-10@2;x:20-21@4;");
        holds("PATTERN", "3 3 0 0 3 0 0 0 0 1 0 0 0 0 0 0 0 0");
        holds("WORDS", "2 40 40 40 -2 20 -2 2000 2000 -2 2000 2000 -2 2000 2000");
        holds("STRANGE", "33");
        holds("LINKS", "1");
        holds("LONGEST", "4");
        holds("RULE", "dropped");
    }

    private static void callsThatChange() {
        changes("2: feed", "xx", m -> m.feed(2, 0x4142L), "TAPE");
        changes("2: feed, the TAPE is empty", "", m -> m.feed(1, 0x20L), "TAPE");
        changes("3: text", "xx yy", TokenMachines::text, "TAPE", "TEXT", "TOKENS");
        changes("3: text, the TAPE is empty", "", TokenMachines::text, "TEXT", "TOKENS");
        changes("4: pattern", "xx", TokenMachines::pattern, "TAPE", "PATTERN");
        changes("4: pattern, the TAPE is empty", "", TokenMachines::pattern, "PATTERN");
        changes("4: pattern, a FAULT", "x(", TokenMachines::pattern, "TAPE");
        changes("5: word", "xx", m -> m.word(7), "TAPE", "WORDS");
        changes("5: word, BAD", "xx", m -> m.word(0), "TAPE");
        changes("5: word, NO", "abc", m -> m.word(7), "TAPE");
        changes("6: strange", "xx", m -> m.strange(34), "STRANGE");
        changes("7: links", "xx", m -> m.links(false), "LINKS");
        changes("8: longest", "xx", m -> m.longest(5, 1), "LONGEST");
        changes("8: longest, the rule", "xx", m -> m.longest(4, 0), "RULE");
        changes("8: longest, both", "xx", m -> m.longest(5, 0), "LONGEST", "RULE");
    }

    private static void callsThatCut() {
        for (int way = 0; way <= 8; way++) {
            int chosen = way;
            String[] due = way == 2 ? new String[0] : new String[] {"TOKENS"};
            changes("9: tokens, way " + way, "xx", m -> m.tokens(chosen, 1, 2), due);
        }
        changes("9: tokens, none are left", "xx", m -> m.tokens(5, 300, 300), "TOKENS");
        changes("9: tokens, BAD", "xx", m -> m.tokens(9, 1, 1));
    }

    private static void callsThatAsk() {
        for (int what = -1; what <= 5; what++) {
            int asked = what;
            changes("10: token", "xx", m -> m.token(1, asked));
            changes("15: count", "xx", m -> m.count(asked));
        }
        for (int place = -1; place <= 21; place++) {
            int asked = place;
            changes("11: sign", "xx", m -> m.sign(0, asked));
            changes("12: same", "xx", m -> m.same(0, asked));
            changes("13: cost", "xx", m -> m.cost(asked));
            changes("14: match", "xx", m -> m.match(asked));
        }
    }

    /** What is set to what it is already stays. */
    private static void callsAgain() {
        changes("6: strange again", "xx", m -> m.strange(33));
        changes("7: links again", "xx", m -> m.links(true));
        changes("8: longest again", "xx", m -> m.longest(4, 1));
        changes("9: tokens again", "xx", m -> m.tokens(2, 0, 0));
        changes("4: pattern again", "a(b|c)*", TokenMachines::pattern, "TAPE");
    }
}
