import java.util.ArrayList;
import java.util.BitSet;
import java.util.HashMap;
import java.util.List;
import java.util.Map;
import java.util.Random;
import java.util.regex.Matcher;
import java.util.regex.Pattern;

/** Promises 4, 9, 13, 14 against slow ones of another make, over random rows from fixed seeds. */
public final class ReferenceTest {
    private static final String SOLID = "[^ \\t\\n]";
    private static final String WORD =
            "(?:[A-Za-z0-9_]|(?<=[A-Za-z])['.](?=[A-Za-z])|(?<=[0-9])[,.](?=[0-9]))+";
    private static final String LINK =
            "(?<!" + SOLID + ")(?:" + SOLID + "+@" + SOLID + "+|www\\." + SOLID + "+)";

    private static final String ONE = "(\\\\.|[^\\]\\\\^\\-])";
    private static final String SET = "\\[\\^?(?:" + ONE + "(?:-" + ONE + ")?)+\\]";

    public static void main(String[] args) {
        Random random = new Random(1);
        for (int i = 0; i < 4000; i++) {
            compareRows(random);
        }
        for (int i = 0; i < 3000; i++) {
            comparePieces(random);
        }
        for (int i = 0; i < 4000; i++) {
            compareMatches(random);
        }
        for (int i = 0; i < 20000; i++) {
            compareFaults(random);
        }
        Check.end("ReferenceTest");
    }

    private static String randomText(Random random, String alphabet, int most) {
        StringBuilder text = new StringBuilder();
        int length = random.nextInt(most + 1);
        for (int i = 0; i < length; i++) {
            text.append(alphabet.charAt(random.nextInt(alphabet.length())));
        }
        return text.toString();
    }

    /** Uncut TOKENS become those that are due, with POSITIONS, in the form that Check shows. */
    private static String due(String text, List<int[]> spans, boolean shared, int longest, int rule) {
        StringBuilder all = new StringBuilder();
        int next = 0;
        for (int i = 0; i < spans.size(); i++) {
            int place = spans.get(i)[0];
            int end = spans.get(i)[1];
            if (shared && i > 0 && spans.get(i - 1)[0] == place) {
                next--;
            }
            List<int[]> parts = new ArrayList<>();
            if (end - place <= longest) {
                parts.add(new int[] {place, end});
            } else if (rule == 0) {
                for (int from = place; from < end; from += longest) {
                    parts.add(new int[] {from, Math.min(from + longest, end)});
                }
            }
            for (int k = 0; k < parts.size(); k++) {
                int[] part = parts.get(k);
                all.append(text, part[0], part[1]).append(':').append(part[0]).append('-').append(part[1]);
                all.append('@').append(shared ? next : next + k).append(';');
            }
            next += shared ? 1 : Math.max(1, parts.size());
        }
        return all.toString();
    }

    private static List<int[]> found(String text, String regex) {
        List<int[]> spans = new ArrayList<>();
        Matcher matcher = Pattern.compile(regex, Pattern.DOTALL).matcher(text);
        while (matcher.find()) {
            spans.add(new int[] {matcher.start(), matcher.end()});
        }
        return spans;
    }

    private static List<int[]> spans(String text, int way, int a, int b, boolean links) {
        List<int[]> all = new ArrayList<>();
        switch (way) {
            case 0:
                return found(text, "[A-Za-z]+");
            case 1:
                return found(text, SOLID + "+");
            case 2:
                return found(text, links ? LINK + "|" + WORD : WORD);
            case 4:
                for (int[] row : found(text, SOLID + "+")) {
                    for (int end = row[0] + 1; end <= row[1]; end++) {
                        if (end == row[1] || text.charAt(end) == '/') {
                            all.add(new int[] {row[0], end});
                        }
                    }
                }
                return all;
            case 8:
                for (int[] row : found(text, "[^A-Za-z0-9 \\t\\n]+")) {
                    for (int[] pair : pairs(row)) {
                        all.add(pair);
                    }
                }
                return all;
            default:
                for (int[] row : found(text, "[A-Za-z]+")) {
                    for (int place = row[0]; place < (way == 5 ? row[1] : row[0] + 1); place++) {
                        for (int end = place + a; end <= place + b && end <= row[1]; end++) {
                            all.add(new int[] {place, end});
                        }
                    }
                }
                return all;
        }
    }

    private static List<int[]> pairs(int[] row) {
        List<int[]> all = new ArrayList<>();
        if (row[1] - row[0] == 1) {
            all.add(row);
        }
        for (int place = row[0]; place + 2 <= row[1]; place++) {
            all.add(new int[] {place, place + 2});
        }
        return all;
    }

    private static void compareRows(Random random) {
        int[] ways = {0, 1, 2, 2, 4, 5, 6, 8};
        int way = ways[random.nextInt(ways.length)];
        String text = randomText(random, random.nextBoolean() ? "abZ1'.,_ @/\n-w" : "www..@@ a", 30);
        int a = 1 + random.nextInt(3);
        int b = a + random.nextInt(3);
        boolean links = random.nextBoolean();
        int longest = random.nextBoolean() ? 300 : 1 + random.nextInt(5);
        int rule = random.nextInt(2);
        TokenMachines m = Check.machine(text);
        m.links(links);
        m.longest(longest, rule);
        int answer = m.tokens(way, a, b);
        String want = due(text, spans(text, way, a, b, links), way >= 4 && way <= 6, longest, rule);
        boolean full = want.split("@\\d+;", -1).length - 1 > 400;
        String told = "9: way " + way + " links " + links + " longest " + longest + "," + rule + " of <" + text + ">";
        if (full) {
            Check.due(told, answer, TokenMachines.FULL);
        } else {
            Check.due(told, Check.shown(m), want);
        }
    }

    /** Of all ways to cut a row the best one, by trying each: its lengths, with the cost ahead. */
    private static int[] bestCut(String row, Map<String, Integer> words, int strange) {
        if (row.isEmpty()) {
            return new int[] {0};
        }
        int[] best = null;
        for (int length = 1; length <= row.length(); length++) {
            Integer known = words.get(row.substring(0, length));
            int price = known == null ? Integer.MAX_VALUE : known;
            if (length == 1) {
                price = Math.min(price, strange);
            }
            if (price != Integer.MAX_VALUE) {
                int[] rest = bestCut(row.substring(length), words, strange);
                int[] whole = new int[rest.length + 1];
                whole[0] = price + rest[0];
                whole[1] = length;
                System.arraycopy(rest, 1, whole, 2, rest.length - 1);
                best = best == null || isBetter(whole, best) ? whole : best;
            }
        }
        return best;
    }

    private static boolean isBetter(int[] one, int[] other) {
        if (one[0] != other[0]) {
            return one[0] < other[0];
        }
        if (one.length != other.length) {
            return one.length < other.length;
        }
        for (int i = 1; i < one.length; i++) {
            if (one[i] != other[i]) {
                return one[i] > other[i];
            }
        }
        return false;
    }

    private static void comparePieces(Random random) {
        String text = randomText(random, "aabbc ", 12);
        Map<String, Integer> words = new HashMap<>();
        TokenMachines m = Check.machine(text);
        int many = random.nextInt(9);
        for (int i = 0; i < many; i++) {
            String word = randomText(random, "aabbc", 4);
            int price = 1 + random.nextInt(6);
            if (!word.isEmpty() && words.putIfAbsent(word, price) == null) {
                Check.word(m, word, price);
            }
        }
        int strange = 1 + random.nextInt(5);
        m.strange(strange);
        List<int[]> spans = new ArrayList<>();
        for (int[] row : found(text, SOLID + "+")) {
            int[] cut = bestCut(text.substring(row[0], row[1]), words, strange);
            Check.due("13: cost in <" + text + "> of " + words, m.cost(row[1] - 1), cut[0]);
            int at = row[0];
            boolean strangeBefore = false;
            for (int i = 1; i < cut.length; i++) {
                boolean strangeNow = !words.containsKey(text.substring(at, at + cut[i]));
                if (strangeBefore && strangeNow) {
                    spans.get(spans.size() - 1)[1]++;
                } else {
                    spans.add(new int[] {at, at + cut[i]});
                }
                strangeBefore = strangeNow;
                at += cut[i];
            }
        }
        int longest = random.nextBoolean() ? 300 : 1 + random.nextInt(3);
        int rule = random.nextInt(2);
        m.longest(longest, rule);
        m.tokens(7, 0, 0);
        Check.due("9: way 7 of <" + text + "> by " + words + " strange " + strange, Check.shown(m),
                due(text, spans, false, longest, rule));
    }

    /** A pattern as a tree, which tells the places that it can end at. */
    private static final class Tree {
        final char kind;
        final String signs;
        final Tree[] parts;

        Tree(char kind, String signs, Tree... parts) {
            this.kind = kind;
            this.signs = signs;
            this.parts = parts;
        }

        static Tree random(Random random, int depth) {
            int choice = random.nextInt(depth > 0 ? 9 : 4);
            switch (choice) {
                case 0:
                case 1:
                    return new Tree('c', "abc".substring(random.nextInt(3)).substring(0, 1));
                case 2:
                    return random.nextInt(3) == 0 ? new Tree('.', "") : new Tree('e', "");
                case 3:
                    return new Tree(random.nextBoolean() ? 's' : 'n', random.nextBoolean() ? "ab" : "c ");
                case 4:
                    return new Tree('|', "", random(random, depth - 1), random(random, depth - 1));
                case 5:
                    return new Tree("*+?".charAt(random.nextInt(3)), "", random(random, depth - 1));
                default:
                    return new Tree('&', "", random(random, depth - 1), random(random, depth - 1));
            }
        }

        /** Brackets around all that could need them. */
        String written() {
            switch (kind) {
                case 'c':
                    return signs;
                case '.':
                    return ".";
                case 'e':
                    return "";
                case 's':
                    return signs.equals("ab") ? "[a-b]" : "[c\\ ]";
                case 'n':
                    return signs.equals("ab") ? "[^ab]" : "[^ c-c]";
                case '|':
                    return "(" + parts[0].written() + "|" + parts[1].written() + ")";
                case '&':
                    return parts[0].written() + parts[1].written();
                default:
                    return (parts[0].kind == 'c' ? parts[0].written() : "(" + parts[0].written() + ")") + kind;
            }
        }

        BitSet ends(String text, int place) {
            BitSet all = new BitSet();
            switch (kind) {
                case 'e':
                    all.set(place);
                    break;
                case '|':
                    all.or(parts[0].ends(text, place));
                    all.or(parts[1].ends(text, place));
                    break;
                case '&':
                    BitSet middle = parts[0].ends(text, place);
                    middle.stream().forEach(at -> all.or(parts[1].ends(text, at)));
                    break;
                case '?':
                    all.or(parts[0].ends(text, place));
                    all.set(place);
                    break;
                case '*':
                case '+':
                    repeat(text, place, all);
                    break;
                default:
                    if (place < text.length() && takes(text.charAt(place))) {
                        all.set(place + 1);
                    }
            }
            return all;
        }

        private void repeat(String text, int place, BitSet all) {
            BitSet now = parts[0].ends(text, place);
            if (kind == '*') {
                now.set(place);
            }
            while (!now.equals(all)) {
                all.or(now);
                BitSet next = (BitSet) now.clone();
                now.stream().forEach(at -> next.or(parts[0].ends(text, at)));
                now = next;
            }
        }

        private boolean takes(char sign) {
            switch (kind) {
                case '.':
                    return " \t\n".indexOf(sign) < 0;
                case 'n':
                    return signs.indexOf(sign) < 0;
                default:
                    return signs.indexOf(sign) >= 0;
            }
        }
    }

    private static void compareMatches(Random random) {
        Tree tree = Tree.random(random, 5);
        String text = randomText(random, "aabbc ", 10);
        String written = tree.written();
        TokenMachines m = Check.machine(text);
        Check.due("4: no fault in " + written, Math.min(0, Check.pattern(m, written)), 0);
        List<int[]> spans = new ArrayList<>();
        int behind = 0;
        for (int place = 0; place < text.length(); place++) {
            int length = Math.max(0, tree.ends(text, place).length() - 1 - place);
            Check.due("14: " + written + " at " + place + " of <" + text + ">", m.match(place), length);
            if (length > 0 && place >= behind) {
                spans.add(new int[] {place, place + length});
                behind = place + length;
            }
        }
        m.tokens(3, 0, 0);
        Check.due("9: way 3 of <" + text + "> by " + written, Check.shown(m), due(text, spans, false, 300, 0));
    }

    /** Whether a row is a pattern, by taking away what is one until only a ROW of letters is left. */
    private static boolean isPattern(String row) {
        StringBuilder plain = new StringBuilder();
        Matcher matcher = Pattern.compile("\\\\.|" + SET + "|.", Pattern.DOTALL).matcher(row);
        while (matcher.find()) {
            String part = matcher.group();
            if (part.equals("\\") || (part.length() > 1 && part.charAt(0) == '[' && !hasRisingRanges(part))) {
                return false;
            }
            plain.append(part.length() > 1 ? "x" : part);
        }
        String rest = plain.toString();
        String before = "";
        while (!before.equals(rest)) {
            before = rest;
            rest = rest.replaceAll("\\((?:[^\\[\\]()*+?|][*+?]?|\\|)*\\)", "x");
        }
        return rest.matches("(?s)(?:[^\\[\\]()*+?|][*+?]?|\\|)*");
    }

    private static boolean hasRisingRanges(String set) {
        Matcher matcher = Pattern.compile(ONE + "(?:-" + ONE + ")?", Pattern.DOTALL).matcher(set);
        matcher.region(set.startsWith("[^") ? 2 : 1, set.length() - 1);
        while (matcher.find()) {
            String low = matcher.group(1);
            String high = matcher.group(2);
            if (high != null && high.charAt(high.length() - 1) < low.charAt(low.length() - 1)) {
                return false;
            }
        }
        return true;
    }

    /** Whether something can be put behind a row so that it is a pattern. */
    private static boolean canGoOn(String row) {
        String[] ends = {"", "a", "]", "a]", "\u00ff]"};
        for (String end : ends) {
            for (int closing = 0; closing <= row.length(); closing++) {
                if (isPattern(row + end + ")".repeat(closing))) {
                    return true;
                }
            }
        }
        return false;
    }

    private static int faultOf(String row) {
        for (int place = 0; place < row.length(); place++) {
            if (!canGoOn(row.substring(0, place + 1))) {
                return place - (isEscaped(row, place) ? 1 : 0);
            }
        }
        return isPattern(row) ? -1 : row.length();
    }

    /** Behind a \ any SIGN can stand, unless it is a d below its c: then its first SIGN, the \, is wrong. */
    private static boolean isEscaped(String row, int place) {
        int many = 0;
        while (many < place && row.charAt(place - 1 - many) == '\\') {
            many++;
        }
        return many % 2 == 1;
    }

    private static void compareFaults(Random random) {
        String row = randomText(random, random.nextBoolean() ? "ab|*+?.[]()\\^-" : "ab[[]()\\^--", 9);
        compareFault(random.nextInt(3) == 0 ? "[" + row : row);
    }

    private static void compareFault(String row) {
        TokenMachines m = new TokenMachines();
        int answer = Check.pattern(m, row);
        int fault = faultOf(row);
        Check.due("4: the fault of <" + row + ">", answer >= 0 ? 0 : answer, fault < 0 ? 0 : -10 - fault);
    }
}
