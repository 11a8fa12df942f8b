import java.util.Arrays;

/**
 * Cuts a text into tokens in nine ways. Words in capitals (SIGN, TOKEN, ROW ..) are the terms of the
 * document, ../shared/DOC.md. All rows are made with the object, so that no call makes new ones.
 */
public final class TokenMachines {
    public static final int BAD = -1, NO = -2, FULL = -3;

    private static final int MOST_SIGNS = 300;
    private static final int MOST_TOKENS = 400;
    private static final int MOST_WORDS = 40;
    private static final int MOST_WORD_SIGNS = 12;
    private static final int MOST_COST = 1000;
    private static final int MOST_ATOMS = 60;
    private static final int MOST_DEPTH = 8;
    private static final int MOST_BYTES_FED = 8;
    private static final int SIGN_NUMBERS = 256;
    private static final int FIRST_STRANGE_COST = 100;
    private static final int FAULT_BASE = -10;

    /** No place, no SIGN, no number: what stands outside of a row. */
    private static final int NONE = -1;

    private static final int BY_LETTERS = 0;
    private static final int BY_BLANKS = 1;
    private static final int BY_WORDS = 2;
    private static final int BY_PATTERN = 3;
    private static final int BY_PATHS = 4;
    private static final int BY_ROWS = 5;
    private static final int BY_BEGINNINGS = 6;
    private static final int BY_DICTIONARY = 7;
    private static final int BY_PAIRS = 8;

    private static final int RULE_CUT = 0;
    private static final int RULE_DROP = 1;

    private final Signs tape;
    private final Signs read;
    private final Found found;
    private final Dictionary dictionary;
    private final PatternReader reader;
    private Automaton automaton;
    private boolean linksOn;

    public TokenMachines() {
        tape = new Signs();
        read = new Signs();
        found = new Found();
        dictionary = new Dictionary();
        reader = new PatternReader();
        automaton = new Automaton();
        linksOn = false;
    }

    public int feed(int n, long bytes) {
        if (n < 1 || n > MOST_BYTES_FED) {
            return BAD;
        }
        if (tape.size() + n > MOST_SIGNS) {
            return FULL;
        }
        for (int i = 0; i < n; i++) {
            tape.append((int) (bytes >>> (8 * i)) & 255);
        }
        return tape.size();
    }

    public int text() {
        read.takeOver(tape);
        found.clear();
        return read.size();
    }

    public int pattern() {
        int fault = reader.readFrom(tape);
        if (fault != NONE) {
            return FAULT_BASE - fault;
        }
        automaton = reader.exchange(automaton);
        return automaton.atoms();
    }

    public int word(int cost) {
        int answer = dictionary.learn(tape, cost);
        tape.clear();
        return answer;
    }

    public int strange(int n) {
        if (!isCost(n)) {
            return BAD;
        }
        return dictionary.exchangeStrangeCost(n);
    }

    public int links(boolean on) {
        int before = linksOn ? 1 : 0;
        linksOn = on;
        return before;
    }

    public int longest(int n, int rule) {
        if (n < 1 || n > MOST_SIGNS || (rule != RULE_CUT && rule != RULE_DROP)) {
            return BAD;
        }
        return found.exchangeLimit(n, rule);
    }

    public int tokens(int way, int a, int b) {
        if (way < BY_LETTERS || way > BY_PAIRS) {
            return BAD;
        }
        boolean sized = way == BY_ROWS || way == BY_BEGINNINGS;
        if (sized && (a < 1 || a > MOST_SIGNS || b < a || b > MOST_SIGNS)) {
            return BAD;
        }
        found.begin(sized || way == BY_PATHS);
        if (way == BY_PATTERN) {
            cutMatches();
        } else {
            cutRows(way, a, b);
        }
        if (found.isOver()) {
            found.clear();
            return FULL;
        }
        return found.size();
    }

    public int token(int k, int what) {
        if (!found.has(k)) {
            return BAD;
        }
        switch (what) {
            case 0:
                return found.placeOf(k);
            case 1:
                return found.endOf(k);
            case 2:
                return found.positionOf(k);
            default:
                return BAD;
        }
    }

    public int sign(int k, int i) {
        if (!found.has(k) || i < 0 || i >= found.lengthOf(k)) {
            return BAD;
        }
        return read.at(found.placeOf(k) + i);
    }

    public int same(int k, int other) {
        if (!found.has(k) || !found.has(other)) {
            return BAD;
        }
        int length = found.lengthOf(k);
        if (length != found.lengthOf(other)) {
            return 0;
        }
        for (int i = 0; i < length; i++) {
            if (read.at(found.placeOf(k) + i) != read.at(found.placeOf(other) + i)) {
                return 0;
            }
        }
        return 1;
    }

    public int cost(int place) {
        int sign = read.at(place);
        if (sign == NONE) {
            return BAD;
        }
        if (isBlank(sign)) {
            return NO;
        }
        int first = place;
        while (first > 0 && isSolid(read.at(first - 1))) {
            first--;
        }
        return dictionary.solve(read, first, endOfKind(BY_BLANKS, place));
    }

    public int match(int place) {
        if (read.at(place) == NONE) {
            return BAD;
        }
        return automaton.longestFrom(read, place);
    }

    public int count(int what) {
        switch (what) {
            case 0:
                return read.size();
            case 1:
                return found.size();
            case 2:
                return tape.size();
            case 3:
                return automaton.atoms();
            case 4:
                return dictionary.size();
            default:
                return BAD;
        }
    }

    private static boolean isLetter(int sign) {
        return (sign >= 'a' && sign <= 'z') || (sign >= 'A' && sign <= 'Z');
    }

    private static boolean isFigure(int sign) {
        return sign >= '0' && sign <= '9';
    }

    private static boolean isBlank(int sign) {
        return sign == ' ' || sign == '\t' || sign == '\n';
    }

    private static boolean isSolid(int sign) {
        return sign != NONE && !isBlank(sign);
    }

    private static boolean isOther(int sign) {
        return isSolid(sign) && !isLetter(sign) && !isFigure(sign);
    }

    private static boolean isCost(int n) {
        return n >= 1 && n <= MOST_COST;
    }

    private void cutMatches() {
        int at = 0;
        while (at < read.size()) {
            int length = automaton.longestFrom(read, at);
            if (length > 0) {
                found.add(at, at + length);
            }
            at += Math.max(1, length);
        }
    }

    /** The SIGN at a row's end is none of its kind, so the next row is looked for behind it. */
    private void cutRows(int way, int least, int most) {
        int at = 0;
        while (at < read.size() && !found.isOver()) {
            boolean link = way == BY_WORDS && linksOn && isLinkAt(at);
            int end = endOfKind(link ? BY_BLANKS : way, at);
            if (end > at) {
                cutRow(way, at, end, least, most);
            }
            at = Math.max(at, end) + 1;
        }
    }

    private void cutRow(int way, int place, int end, int least, int most) {
        switch (way) {
            case BY_PATHS:
                cutPaths(place, end);
                break;
            case BY_ROWS:
                for (int from = place; from < end && !found.isOver(); from++) {
                    cutSizes(from, end, least, most);
                }
                break;
            case BY_BEGINNINGS:
                cutSizes(place, end, least, most);
                break;
            case BY_DICTIONARY:
                dictionary.solve(read, place, end);
                cutPieces(place, end);
                break;
            case BY_PAIRS:
                cutPairs(place, end);
                break;
            default:
                found.add(place, end);
        }
    }

    private void cutPaths(int place, int end) {
        for (int at = place + 1; at < end; at++) {
            if (read.at(at) == '/') {
                found.add(place, at);
            }
        }
        found.add(place, end);
    }

    private void cutSizes(int place, int end, int least, int most) {
        int last = Math.min(end, place + most);
        for (int to = place + least; to <= last; to++) {
            found.add(place, to);
        }
    }

    private void cutPieces(int place, int end) {
        int at = place;
        while (at < end) {
            int to = at + 1;
            if (dictionary.isStrangeAt(at)) {
                while (to < end && dictionary.isStrangeAt(to)) {
                    to++;
                }
            } else {
                to = Math.max(to, at + dictionary.pieceAt(at));
            }
            found.add(at, to);
            at = to;
        }
    }

    private void cutPairs(int place, int end) {
        if (end - place == 1) {
            found.add(place, end);
        }
        for (int at = place; at + 1 < end; at++) {
            found.add(at, at + 2);
        }
    }

    /** The end of the row, from a place on, of the SIGNS that a way's rows are of. */
    private int endOfKind(int way, int place) {
        int end = place;
        while (end < read.size() && isOfKind(way, end)) {
            end++;
        }
        return end;
    }

    private boolean isOfKind(int way, int place) {
        switch (way) {
            case BY_LETTERS:
            case BY_ROWS:
            case BY_BEGINNINGS:
                return isLetter(read.at(place));
            case BY_WORDS:
                return isOfWord(place);
            case BY_PAIRS:
                return isOther(read.at(place));
            default:
                return isSolid(read.at(place));
        }
    }

    private boolean isOfWord(int place) {
        int sign = read.at(place);
        if (isLetter(sign) || isFigure(sign) || sign == '_') {
            return true;
        }
        int before = read.at(place - 1);
        int behind = read.at(place + 1);
        if (isLetter(before) && isLetter(behind)) {
            return sign == '\'' || sign == '.';
        }
        if (isFigure(before) && isFigure(behind)) {
            return sign == ',' || sign == '.';
        }
        return false;
    }

    /** A LINK's row is the whole one up to a BLANK: what makes a shorter one a LINK makes this one, too. */
    private boolean isLinkAt(int place) {
        if (place > 0 && !isBlank(read.at(place - 1))) {
            return false;
        }
        int end = endOfKind(BY_BLANKS, place);
        if (end - place > 4 && isWebAt(place)) {
            return true;
        }
        for (int at = place + 1; at < end - 1; at++) {
            if (read.at(at) == '@') {
                return true;
            }
        }
        return false;
    }

    private boolean isWebAt(int place) {
        return read.at(place) == 'w' && read.at(place + 1) == 'w'
                && read.at(place + 2) == 'w' && read.at(place + 3) == '.';
    }

    /** A row of at most 300 SIGNS. */
    private static final class Signs {
        private final byte[] held;
        private int size;

        Signs() {
            held = new byte[MOST_SIGNS];
            size = 0;
        }

        int size() {
            return size;
        }

        int at(int place) {
            return place >= 0 && place < size ? held[place] & 255 : NONE;
        }

        void append(int sign) {
            if (size < MOST_SIGNS) {
                held[size] = (byte) sign;
                size++;
            }
        }

        void clear() {
            size = 0;
        }

        void takeOver(Signs other) {
            size = 0;
            for (int i = 0; i < other.size; i++) {
                append(other.at(i));
            }
            other.clear();
        }

        boolean hasBlank() {
            for (int i = 0; i < size; i++) {
                if (isBlank(at(i))) {
                    return true;
                }
            }
            return false;
        }
    }

    /** The TOKENS of THE TEXT, with LONGEST and POSITIONS seen to. */
    private static final class Found {
        private final int[] places;
        private final int[] ends;
        private final int[] positions;
        private int size;
        private boolean over;
        private int limit;
        private int limitRule;
        private boolean shared;
        private int position;
        private int lastPlace;

        Found() {
            places = new int[MOST_TOKENS];
            ends = new int[MOST_TOKENS];
            positions = new int[MOST_TOKENS];
            limit = MOST_SIGNS;
            limitRule = RULE_CUT;
            size = 0;
            over = false;
            shared = false;
            position = NONE;
            lastPlace = NONE;
        }

        int size() {
            return size;
        }

        boolean isOver() {
            return over;
        }

        boolean has(int k) {
            return k >= 0 && k < size;
        }

        int placeOf(int k) {
            return has(k) ? places[k] : NONE;
        }

        int endOf(int k) {
            return has(k) ? ends[k] : NONE;
        }

        int positionOf(int k) {
            return has(k) ? positions[k] : NONE;
        }

        int lengthOf(int k) {
            return endOf(k) - placeOf(k);
        }

        int exchangeLimit(int n, int rule) {
            int before = limit;
            limit = n;
            limitRule = rule;
            return before;
        }

        void clear() {
            size = 0;
            over = false;
        }

        /** From now on TOKENS come; when shared, those of one place have one POSITION. */
        void begin(boolean placesShare) {
            clear();
            shared = placesShare;
            position = NONE;
            lastPlace = NONE;
        }

        void add(int place, int end) {
            if (!shared || place != lastPlace) {
                position++;
            }
            lastPlace = place;
            if (end - place <= limit) {
                put(place, end);
            } else if (limitRule == RULE_CUT) {
                addCut(place, end);
            }
        }

        private void addCut(int place, int end) {
            for (int from = place; from < end && !over; from += Math.max(1, limit)) {
                if (!shared && from > place) {
                    position++;
                }
                put(from, Math.min(end, from + limit));
            }
        }

        private void put(int place, int end) {
            if (size >= MOST_TOKENS) {
                over = true;
                return;
            }
            places[size] = place;
            ends[size] = end;
            positions[size] = position;
            size++;
        }
    }

    /** The WORDS with their COSTS, and the cheapest way to cut a row into PIECES. */
    private static final class Dictionary {
        private final byte[] held;
        private final int[] lengths;
        private final int[] costs;
        private int size;
        private int strangeCost;
        /** The best way from a place to the row's end: its sum, its PIECES, its first PIECE. */
        private final int[] sums;
        private final int[] pieces;
        private final int[] firsts;
        private final boolean[] strangers;

        Dictionary() {
            held = new byte[MOST_WORDS * MOST_WORD_SIGNS];
            lengths = new int[MOST_WORDS];
            costs = new int[MOST_WORDS];
            size = 0;
            strangeCost = FIRST_STRANGE_COST;
            sums = new int[MOST_SIGNS + 1];
            pieces = new int[MOST_SIGNS + 1];
            firsts = new int[MOST_SIGNS + 1];
            strangers = new boolean[MOST_SIGNS + 1];
        }

        int size() {
            return size;
        }

        int exchangeStrangeCost(int n) {
            int before = strangeCost;
            strangeCost = n;
            return before;
        }

        int learn(Signs row, int price) {
            int length = row.size();
            if (length < 1 || length > MOST_WORD_SIGNS || row.hasBlank() || !isCost(price)) {
                return BAD;
            }
            if (knows(row)) {
                return NO;
            }
            if (size >= MOST_WORDS) {
                return FULL;
            }
            for (int i = 0; i < length; i++) {
                held[size * MOST_WORD_SIGNS + i] = (byte) row.at(i);
            }
            lengths[size] = length;
            costs[size] = price;
            size++;
            return size - 1;
        }

        private boolean knows(Signs row) {
            for (int k = 0; k < size; k++) {
                if (lengths[k] == row.size() && standsAt(k, row, 0)) {
                    return true;
                }
            }
            return false;
        }

        private boolean standsAt(int k, Signs row, int place) {
            for (int i = 0; i < lengths[k]; i++) {
                if ((held[k * MOST_WORD_SIGNS + i] & 255) != row.at(place + i)) {
                    return false;
                }
            }
            return true;
        }

        /** From the end on backwards, so that the rest behind each PIECE is cut best already. */
        int solve(Signs row, int place, int end) {
            if (place < 0 || end < place || end > MOST_SIGNS) {
                return BAD;
            }
            sums[end] = 0;
            pieces[end] = 0;
            for (int at = end - 1; at >= place; at--) {
                choose(row, at, end);
            }
            return sums[place];
        }

        private void choose(Signs row, int at, int end) {
            sums[at] = strangeCost + sums[at + 1];
            pieces[at] = 1 + pieces[at + 1];
            firsts[at] = 1;
            boolean known = false;
            for (int k = 0; k < size; k++) {
                if (lengths[k] <= end - at && standsAt(k, row, at)) {
                    known = known || lengths[k] == 1;
                    tryPiece(at, lengths[k], costs[k]);
                }
            }
            strangers[at] = firsts[at] == 1 && !known;
        }

        private void tryPiece(int at, int length, int price) {
            int sum = price + sums[at + length];
            int many = 1 + pieces[at + length];
            boolean better = sum < sums[at];
            if (sum == sums[at]) {
                better = many < pieces[at] || (many == pieces[at] && length > firsts[at]);
            }
            if (better) {
                sums[at] = sum;
                pieces[at] = many;
                firsts[at] = length;
            }
        }

        int pieceAt(int place) {
            return place >= 0 && place <= MOST_SIGNS ? firsts[place] : 0;
        }

        boolean isStrangeAt(int place) {
            return place >= 0 && place <= MOST_SIGNS && strangers[place];
        }
    }

    /**
     * THE PATTERN as sets of its ATOMS, a bit for each: which ones a SIGN fits, which ones may come
     * behind each one, with which ones a row may begin and end. 60 ATOMS have room in a long.
     */
    private static final class Automaton {
        private final long[] fitting;
        private final long[] followers;
        private int atoms;
        private long beginners;
        private long enders;

        Automaton() {
            fitting = new long[SIGN_NUMBERS];
            followers = new long[MOST_ATOMS];
            atoms = 0;
            beginners = 0;
            enders = 0;
        }

        int atoms() {
            return atoms;
        }

        void clear() {
            Arrays.fill(fitting, 0L);
            Arrays.fill(followers, 0L);
            atoms = 0;
            beginners = 0;
            enders = 0;
        }

        void addAtom() {
            if (atoms < MOST_ATOMS) {
                atoms++;
            }
        }

        /** The newest ATOM's bit. */
        long newest() {
            return atoms > 0 ? 1L << (atoms - 1) : 0L;
        }

        void allow(int low, int high) {
            int last = Math.min(high, SIGN_NUMBERS - 1);
            for (int sign = Math.max(low, 0); sign <= last; sign++) {
                fitting[sign] |= newest();
            }
        }

        void turnRound() {
            for (int sign = 0; sign < SIGN_NUMBERS; sign++) {
                fitting[sign] ^= newest();
            }
        }

        void connect(long from, long to) {
            for (int k = 0; k < atoms; k++) {
                if ((from >>> k & 1L) != 0) {
                    followers[k] |= to;
                }
            }
        }

        void setEdges(long first, long last) {
            beginners = first;
            enders = last;
        }

        int longestFrom(Signs row, int place) {
            int best = 0;
            long open = beginners;
            for (int at = place; at < row.size() && open != 0; at++) {
                long taken = open & fittingFor(row.at(at));
                if ((taken & enders) != 0) {
                    best = at + 1 - place;
                }
                open = behind(taken);
            }
            return best;
        }

        private long fittingFor(int sign) {
            return sign >= 0 && sign < SIGN_NUMBERS ? fitting[sign] : 0L;
        }

        private long behind(long taken) {
            long open = 0;
            for (int k = 0; k < atoms && taken >>> k != 0; k++) {
                if ((taken >>> k & 1L) != 0) {
                    open |= followers[k];
                }
            }
            return open;
        }
    }

    /** A part of a pattern: the ATOMS it may begin and end with, and whether it MATCHES no SIGN at all. */
    private static final class Part {
        private long first;
        private long last;
        private boolean mayBeEmpty;

        Part() {
            become(0L, false);
        }

        private void become(long bits, boolean empty) {
            first = bits;
            last = bits;
            mayBeEmpty = empty;
        }

        void becomeNothing() {
            become(0L, false);
        }

        void becomeEmptyRow() {
            become(0L, true);
        }

        void becomeAtom(long bit) {
            become(bit, false);
        }

        void becomeCopyOf(Part other) {
            first = other.first;
            last = other.last;
            mayBeEmpty = other.mayBeEmpty;
        }

        void addChoice(Part other) {
            first |= other.first;
            last |= other.last;
            mayBeEmpty = mayBeEmpty || other.mayBeEmpty;
        }

        void addBehind(Part next) {
            if (mayBeEmpty) {
                first |= next.first;
            }
            last = next.mayBeEmpty ? last | next.last : next.last;
            mayBeEmpty = mayBeEmpty && next.mayBeEmpty;
        }
    }

    /** Reads a pattern into an automaton of its own, so that one with a fault harms no other. */
    private static final class PatternReader {
        private final Signs source;
        /** For each open ( and, first, for the whole: the ROWS that are done, and the one that is not. */
        private final Part[] choices;
        private final Part[] rows;
        private final Part piece;
        private Automaton made;
        private int depth;
        private int at;
        private int fault;

        PatternReader() {
            source = new Signs();
            choices = new Part[MOST_DEPTH + 1];
            rows = new Part[MOST_DEPTH + 1];
            for (int i = 0; i <= MOST_DEPTH; i++) {
                choices[i] = new Part();
                rows[i] = new Part();
            }
            piece = new Part();
            made = new Automaton();
            depth = 0;
            at = 0;
            fault = NONE;
        }

        /** What was read goes out, and the other one is written over by the next reading. */
        Automaton exchange(Automaton other) {
            Automaton ready = made;
            made = other;
            return ready;
        }

        /** THE FAULT, or NONE. */
        int readFrom(Signs tape) {
            begin(tape);
            for (int turn = 0; turn < MOST_SIGNS && at < source.size() && fault == NONE; turn++) {
                switch (source.at(at)) {
                    case '(':
                        open();
                        break;
                    case ')':
                        close();
                        break;
                    case '|':
                        endRow();
                        at++;
                        break;
                    case '*':
                    case '+':
                    case '?':
                    case ']':
                        fault = at;
                        break;
                    default:
                        readAtom();
                }
            }
            end();
            return fault;
        }

        private void begin(Signs tape) {
            source.takeOver(tape);
            made.clear();
            at = 0;
            fault = NONE;
            depth = 0;
            beginChoices();
        }

        private void end() {
            if (fault == NONE && depth > 0) {
                fault = source.size();
            }
            endRow();
            made.setEdges(choices[0].first, choices[0].last);
        }

        private void beginChoices() {
            choices[depth].becomeNothing();
            rows[depth].becomeEmptyRow();
        }

        private void endRow() {
            choices[depth].addChoice(rows[depth]);
            rows[depth].becomeEmptyRow();
        }

        private void open() {
            if (depth >= MOST_DEPTH) {
                fault = at;
                return;
            }
            depth++;
            at++;
            beginChoices();
        }

        private void close() {
            if (depth <= 0) {
                fault = at;
                return;
            }
            endRow();
            piece.becomeCopyOf(choices[depth]);
            depth--;
            at++;
            endPiece();
        }

        private void endPiece() {
            int sign = source.at(at);
            boolean again = sign == '*' || sign == '+';
            boolean never = sign == '*' || sign == '?';
            if (again) {
                made.connect(piece.last, piece.first);
            }
            if (never) {
                piece.mayBeEmpty = true;
            }
            if (again || never) {
                at++;
            }
            made.connect(rows[depth].last, piece.first);
            rows[depth].addBehind(piece);
        }

        private void readAtom() {
            if (made.atoms() >= MOST_ATOMS) {
                fault = at;
                return;
            }
            made.addAtom();
            int sign = source.at(at);
            if (sign == '[') {
                readSet();
            } else if (sign == '.') {
                at++;
                allowSolid();
            } else {
                int one = readSign(false);
                made.allow(one, one);
            }
            if (fault == NONE) {
                piece.becomeAtom(made.newest());
                endPiece();
            }
        }

        private void allowSolid() {
            made.allow(' ', ' ');
            made.allow('\t', '\n');
            made.turnRound();
        }

        private void readSet() {
            at++;
            boolean turned = source.at(at) == '^';
            if (turned) {
                at++;
            }
            readRange();
            for (int turn = 0; turn < MOST_SIGNS && fault == NONE && source.at(at) != ']'; turn++) {
                readRange();
            }
            at++;
            if (turned) {
                made.turnRound();
            }
        }

        private void readRange() {
            int low = readSign(true);
            int high = low;
            if (fault == NONE && source.at(at) == '-') {
                at++;
                int place = at;
                high = readSign(true);
                if (fault == NONE && high < low) {
                    fault = place;
                }
            }
            if (fault == NONE) {
                made.allow(low, high);
            }
        }

        /** One SIGN, or \ and any SIGN; within a SET ] ^ - cannot stand by themselves. */
        private int readSign(boolean inSet) {
            int sign = source.at(at);
            if (inSet && (sign == ']' || sign == '^' || sign == '-')) {
                fault = at;
                return NONE;
            }
            if (sign == '\\') {
                at++;
                sign = source.at(at);
            }
            if (sign == NONE) {
                fault = source.size();
            }
            at++;
            return sign;
        }
    }
}
