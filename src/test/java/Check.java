import java.nio.charset.StandardCharsets;

/** What all tests of the project use: answers are compared, a wrong one is printed and counted. */
final class Check {
    private static int wrong = 0;
    private static int done = 0;

    private Check() {
    }

    static void due(String what, long got, long want) {
        due(what, Long.toString(got), Long.toString(want));
    }

    static void due(String what, String got, String want) {
        done++;
        if (!got.equals(want)) {
            wrong++;
            System.out.println(what + " answered " + got + ", due is " + want);
        }
    }

    /** Ends the test with exit code 1 if an answer was wrong. */
    static void end(String test) {
        System.out.println(test + ": " + done + " answers, " + wrong + " wrong");
        if (wrong != 0) {
            System.exit(1);
        }
    }

    /** Feeds a text of characters 0 to 255, eight at a time; the last answer. */
    static int feed(TokenMachines machine, String signs) {
        byte[] bytes = signs.getBytes(StandardCharsets.ISO_8859_1);
        int answer = machine.count(2);
        for (int at = 0; at < bytes.length; at += 8) {
            int n = Math.min(8, bytes.length - at);
            long number = 0;
            for (int i = 0; i < n; i++) {
                number |= (bytes[at + i] & 255L) << (8 * i);
            }
            answer = machine.feed(n, number);
        }
        return answer;
    }

    static TokenMachines machine(String text) {
        TokenMachines machine = new TokenMachines();
        give(machine, text);
        return machine;
    }

    static int give(TokenMachines machine, String text) {
        feed(machine, text);
        return machine.text();
    }

    static int pattern(TokenMachines machine, String signs) {
        feed(machine, signs);
        return machine.pattern();
    }

    static int word(TokenMachines machine, String signs, int cost) {
        feed(machine, signs);
        return machine.word(cost);
    }

    /** The TOKENS, in brief, of a text on a new object. */
    static String cut(String text, int way, int a, int b) {
        TokenMachines machine = machine(text);
        machine.tokens(way, a, b);
        return brief(machine);
    }

    static String cut(String text, int way) {
        return cut(text, way, 0, 0);
    }

    /** As cut, with LONGEST and its rule. */
    static String cutWithin(int longest, int rule, String text, int way, int a, int b) {
        TokenMachines machine = machine(text);
        machine.longest(longest, rule);
        machine.tokens(way, a, b);
        return brief(machine);
    }

    /** The TOKENS that there are, each as SIGNS:place-end@POSITION. */
    static String shown(TokenMachines machine) {
        StringBuilder all = new StringBuilder();
        for (int k = 0; k < machine.count(1); k++) {
            int length = machine.token(k, 1) - machine.token(k, 0);
            for (int i = 0; i < length; i++) {
                all.append((char) machine.sign(k, i));
            }
            all.append(':').append(machine.token(k, 0)).append('-').append(machine.token(k, 1));
            all.append('@').append(machine.token(k, 2)).append(';');
        }
        return all.toString();
    }

    /** Only SIGNS and POSITIONS, for rows that are easier to read so. */
    static String brief(TokenMachines machine) {
        String all = shown(machine).replaceAll(":\\d+-\\d+@(\\d+);", "@$1 ");
        return all.isEmpty() ? all : all.substring(0, all.length() - 1);
    }
}
