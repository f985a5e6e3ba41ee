/**
 * Rules for data, and data in a published short form: rules are read from a text, data from bytes, and it is
 * told whether data are as a rule says; also their text, and their one shortest form.
 */
public final class ItemJudge {
    public static final int NONE = -1;

    private static final int TAPE_ROOM = 3000;
    private static final int OUT_ROOM = 4000;
    private static final int FED = 20;
    private static final int MAX_TOKENS = 300;
    private static final int MAX_OPEN = 16;
    private static final int MAX_NAME = 32;
    private static final int MAX_RULES = 24;
    private static final int MAX_PARAMS = 8;
    private static final int MAX_INSTANCES = 64;
    private static final int MAX_ENTRIES = 100;
    private static final int MAX_PATH = 16;
    private static final int MAX_OCCUR = 1000;
    private static final int MAX_ITEMS = 200;
    private static final int MAX_DEPTH = 10;
    private static final int MAX_LIST = 100;
    private static final int MAX_PAIRS = 6;
    private static final int MAX_NESTED = 3;
    private static final int ENDLESS = 1000000;

    // The text of the prelude comes first, then that of the tape, then the bytes that TEXTS and BYTES stand for.
    private static final int OWN_TEXT = 1200;
    private static final int OWN_BODIES = OWN_TEXT + TAPE_ROOM;
    private static final int TEXT_ROOM = OWN_BODIES + TAPE_ROOM;
    private static final int TOKEN_ROOM = 520;
    private static final int NODE_ROOM = 1000;
    private static final int RULE_ROOM = 145;
    private static final int CALL_ROOM = 76;

    private static final int T_END = 0;
    private static final int T_BAD = 1;
    private static final int T_NAME = 2;
    private static final int T_NUMBER = 3;
    private static final int T_FLOAT = 4;
    private static final int T_OCCUR = 5;
    private static final int T_TEXT = 6;
    private static final int T_BYTES = 7;
    private static final int T_CONTROL = 8;
    private static final int T_HASH = 9;
    private static final int T_ARROW = 10;
    private static final int T_MORE_TYPES = 11;
    private static final int T_MORE_ENTRIES = 12;
    private static final int T_OR_ENTRIES = 13;
    private static final int T_UP_TO = 14;
    private static final int T_BELOW = 15;

    private static final int N_NUMBER = 1;
    private static final int N_TEXT = 2;
    private static final int N_BYTES = 3;
    private static final int N_WORD = 4;
    private static final int N_NAME = 5;
    private static final int N_UNWRAP = 6;
    private static final int N_AND_NAME = 7;
    private static final int N_AND_GROUP = 8;
    private static final int N_PAREN = 9;
    private static final int N_MAP = 10;
    private static final int N_ARRAY = 11;
    private static final int N_TAG = 12;
    private static final int N_MAJOR = 13;
    private static final int N_SEVEN = 14;
    private static final int N_ANY = 15;
    private static final int N_RANGE = 16;
    private static final int N_CONTROL = 17;
    private static final int N_ARGUMENT = 18;
    private static final int N_CHOICE = 19;
    private static final int N_ENTRY = 20;
    private static final int N_GROUP_ENTRY = 21;
    private static final int N_NAMED_ENTRY = 22;

    private static final int C_UNKNOWN = 0;
    private static final int C_SIZE = 1;
    private static final int C_BITS = 2;
    private static final int C_CBOR = 3;
    private static final int C_CBORSEQ = 4;
    private static final int C_AND = 5;
    private static final int C_LT = 6;
    private static final int C_LE = 7;
    private static final int C_GT = 8;
    private static final int C_GE = 9;
    private static final int C_EQ = 10;
    private static final int C_NE = 11;
    private static final int C_DEFAULT = 12;

    // What a NAME leads to, beside the rules from 0 on: nothing, a TYPE or a GROUP that is never so, a parameter.
    private static final int TO_NOTHING = -2;
    private static final int TO_NO_TYPE = -3;
    private static final int TO_NO_GROUP = -4;
    private static final int TO_PARAM = 1000;

    private static final String PRELUDE_1 = "any = # uint = #0 nint = #1 int = uint / nint bstr = #2 bytes = #2 tstr = #3 text = #3 tdate = #6.0(tstr) time = #6.1(number) number = int / float ";
    private static final String PRELUDE_2 = "biguint = #6.2(bstr) bignint = #6.3(bstr) bigint = biguint / bignint integer = int / bigint unsigned = uint / biguint decfrac = #6.4([e10: int, m: integer]) ";
    private static final String PRELUDE_3 = "bigfloat = #6.5([e2: int, m: integer]) eb64url = #6.21(any) eb64legacy = #6.22(any) eb16 = #6.23(any) encoded-cbor = #6.24(bstr) uri = #6.32(tstr) ";
    private static final String PRELUDE_4 = "b64url = #6.33(tstr) b64legacy = #6.34(tstr) regexp = #6.35(tstr) mime-message = #6.36(tstr) cbor-any = #6.55799(any) float16 = #7.25 float32 = #7.26 ";
    private static final String PRELUDE_5 = "float64 = #7.27 float16-32 = float16 / float32 float32-64 = float32 / float64 float = float16-32 / float64 ";
    private static final String PRELUDE_6 = "false = #7.20 true = #7.21 bool = false / true nil = #7.22 null = #7.22 undefined = #7.23 ";

    private final byte[] tape;
    private int taped;
    private int faultPlace;
    private Rules rules;
    private Rules spare;
    private final Parser parser;
    private final Checker checker;
    private final Limits limits;
    private final Items items;
    private final Memo memo;
    private final Judge referee;
    private final Writer writer;

    public ItemJudge() {
        tape = new byte[TAPE_ROOM];
        taped = 0;
        faultPlace = NONE;
        rules = new Rules();
        spare = new Rules();
        parser = new Parser(rules);
        checker = new Checker(rules);
        limits = new Limits(rules);
        items = new Items();
        memo = new Memo();
        referee = new Judge(rules, items, memo);
        writer = new Writer(items);
        rules.tokens.cutPrelude();
        spare.tokens.cutPrelude();
        parser.readRules(rules);
        checker.bind(rules);
        rules.keepPrelude();
        parser.readRules(spare);
        checker.bind(spare);
        spare.keepPrelude();
    }

    public int feed(int a, int b, int c, int d, int e) {
        if (taped + FED > TAPE_ROOM) return NONE;
        feedNumber(a);
        feedNumber(b);
        feedNumber(c);
        feedNumber(d);
        feedNumber(e);
        return taped;
    }

    public int end(int n) {
        if (n < 0 || n > FED || taped < FED) return NONE;
        taped = taped - FED + n;
        return taped;
    }

    public int grammar() {
        Rules next = spare;
        next.begin();
        next.tokens.cutOwn(tape, taped, next.ownToken);
        taped = 0;
        if (!parser.readRules(next)) return faulty(1, parser.failedToken());
        int fault = checker.firstFault(next);
        if (fault != 0) return faulty(fault, checker.blamedToken());
        int loop = limits.firstLoop(next);
        if (loop >= 0) return faulty(9, loop);
        boolean tooMuch = !next.instances.fill(next) || limits.groupsTooLarge() || limits.pathsTooLong();
        if (tooMuch) return faulty(10, next.tokens.lastToken());
        spare = rules;
        rules = next;
        faultPlace = NONE;
        referee.obey(rules);
        memo.renew(0);
        return rules.ownRules();
    }

    public int place() {
        return faultPlace;
    }

    public int rule(int k, int i) {
        int r = rules.numbered(k);
        if (r < 0) return NONE;
        if (i >= 0) return rules.nameByte(r, i);
        if (i == -1) return rules.nameSize(r);
        if (i == -2) return rules.paramsOf(r);
        if (i == -3) return at(rules.grouped, r);
        if (i == -4) return rules.choices(r);
        return NONE;
    }

    public int item() {
        int n = taped;
        taped = 0;
        // Level 1 is free between two calls: the ITEM that was there is only lost when the new one stands.
        if (!items.readOne(1, tape, 0, n, 1)) return -2 - items.faultPlace();
        if (!items.readOne(0, tape, 0, n, 1)) return NONE;
        memo.renew(0);
        return items.keepTop();
    }

    public long node(int k, int what) {
        return items.told(k, what);
    }

    public int judge(int k, int n) {
        int r = rules.numbered(k);
        if (r < 0 || !items.isTop(n) || at(rules.grouped, r) == 1 || rules.paramsOf(r) > 0) return NONE;
        return referee.says(r, n) ? 1 : 0;
    }

    public int write(int n) {
        return items.isTop(n) ? writer.tell(n) : NONE;
    }

    public int shorten(int n) {
        return items.isTop(n) ? writer.pack(n) : NONE;
    }

    public int out(int i) {
        return writer.kept(i);
    }

    private void feedNumber(int number) {
        for (int shift = 24; shift >= 0; shift -= 8) {
            putByte(tape, taped, number >> shift);
            taped++;
        }
    }

    /** The answer to a text with this FAULT at this token. */
    private int faulty(int fault, int token) {
        faultPlace = spare.tokens.placeOf(token);
        return -fault;
    }

    private static int at(int[] row, int i) {
        return i >= 0 && i < row.length ? row[i] : NONE;
    }

    private static void put(int[] row, int i, int value) {
        if (i >= 0 && i < row.length) row[i] = value;
    }

    private static long longAt(long[] row, int i) {
        return i >= 0 && i < row.length ? row[i] : 0;
    }

    private static void putLong(long[] row, int i, long value) {
        if (i >= 0 && i < row.length) row[i] = value;
    }

    private static int byteAt(byte[] row, int i) {
        return i >= 0 && i < row.length ? row[i] & 255 : NONE;
    }

    private static void putByte(byte[] row, int i, int value) {
        if (i >= 0 && i < row.length) row[i] = (byte) value;
    }

    /** Copies n bytes, if both rows have them there. */
    private static void copy(byte[] from, int i, byte[] to, int j, int n) {
        if (n > 0 && i >= 0 && j >= 0 && n <= from.length - i && n <= to.length - j) System.arraycopy(from, i, to, j, n);
    }

    /** Whether a is below b, both from 0 to 2^64 - 1. */
    private static boolean below(long a, long b) {
        return (a ^ (1L << 63)) < (b ^ (1L << 63));
    }

    /** The tokens of a text of rules. */
    private static final class Tokens {
        final byte[] text;
        final int[] kind;
        final int[] start;
        final int[] bodyStart;
        final int[] bodySize;
        final long[] low;
        final long[] high;
        int count;
        private int stop;
        private int open;
        private int bodies;
        private int newKind;
        private int newStart;
        private int newSize;
        private long newLow;
        private long newHigh;
        private long number;

        Tokens() {
            text = new byte[TEXT_ROOM];
            kind = new int[TOKEN_ROOM];
            start = new int[TOKEN_ROOM];
            bodyStart = new int[TOKEN_ROOM];
            bodySize = new int[TOKEN_ROOM];
            low = new long[TOKEN_ROOM];
            high = new long[TOKEN_ROOM];
        }

        void cutPrelude() {
            int p = load(PRELUDE_1, 0);
            p = load(PRELUDE_2, p);
            p = load(PRELUDE_3, p);
            p = load(PRELUDE_4, p);
            p = load(PRELUDE_5, p);
            p = load(PRELUDE_6, p);
            count = 0;
            cut(0, p);
        }

        void cutOwn(byte[] from, int n, int firstToken) {
            copy(from, 0, text, OWN_TEXT, n);
            count = firstToken;
            bodies = OWN_BODIES;
            cut(OWN_TEXT, OWN_TEXT + n);
        }

        int kindOf(int i) {
            return i >= 0 && i < count && i < kind.length ? kind[i] : T_END;
        }

        int placeOf(int i) {
            return at(start, i) - OWN_TEXT;
        }

        int lastToken() {
            return count - 1;
        }

        int bodyByte(int i, int j) {
            return j >= 0 && j < at(bodySize, i) ? byteAt(text, at(bodyStart, i) + j) : NONE;
        }

        boolean sameBody(int i, int j) {
            int n = at(bodySize, i);
            if (n != at(bodySize, j)) return false;
            int p = at(bodyStart, i);
            int q = at(bodyStart, j);
            for (int k = 0; k < n; k++) {
                if (byteAt(text, p + k) != byteAt(text, q + k)) return false;
            }
            return true;
        }

        boolean isWord(int i, String word) {
            int n = at(bodySize, i);
            if (n != word.length()) return false;
            int p = at(bodyStart, i);
            for (int k = 0; k < n && k < word.length(); k++) {
                if (byteAt(text, p + k) != word.charAt(k)) return false;
            }
            return true;
        }

        private int load(String words, int p) {
            int n = words.length();
            for (int i = 0; i < n; i++) putByte(text, p + i, words.charAt(i));
            return p + n;
        }

        /** The row of tokens always ends with one that can stand nowhere: the text's end, or what is no token. */
        private void cut(int from, int to) {
            stop = to;
            open = 0;
            int p = from;
            for (int i = 0; i <= MAX_TOKENS; i++) {
                p = behindBlanks(p);
                if (p >= stop) {
                    add(T_END, stop);
                    return;
                }
                int q = i < MAX_TOKENS ? one(p) : NONE;
                if (q <= p || opensTooMuch()) {
                    add(T_BAD, p);
                    return;
                }
                add(newKind, p);
                p = q;
            }
        }

        private void add(int k, int p) {
            if (count >= TOKEN_ROOM) return;
            put(kind, count, k);
            put(start, count, p);
            put(bodyStart, count, newStart);
            put(bodySize, count, newSize);
            putLong(low, count, newLow);
            putLong(high, count, newHigh);
            count++;
        }

        private boolean opensTooMuch() {
            int k = newKind;
            if (k == '(' || k == '{' || k == '[' || k == '<') open++;
            if (k == ')' || k == '}' || k == ']' || k == '>') open--;
            return open > MAX_OPEN;
        }

        private int look(int p) {
            return p >= 0 && p < stop && p < text.length ? text[p] & 255 : NONE;
        }

        private int behindBlanks(int p) {
            boolean remark = false;
            for (int q = p; q < stop; q++) {
                int c = look(q);
                if (c == ';') remark = true;
                else if (c == 10) remark = false;
                else if (!remark && c != 13 && c != 32) return q;
            }
            return stop;
        }

        /** Where the token that begins at p ends, what it is standing in the new fields; NONE. */
        private int one(int p) {
            int c = look(p);
            newStart = p;
            newSize = 0;
            newLow = 0;
            newHigh = 0;
            if (c == 'h' && look(p + 1) == '\'') return hexBytes(p + 2);
            if (startsName(c)) return named(p, T_NAME);
            if (isDigit(c) && look(behindUint(p)) == '*') return occur(behindUint(p), number);
            if (isDigit(c)) return numberAt(p, false);
            if (c == '-') return numberAt(p + 1, true);
            if (c == '"') return quoted(p + 1, c, T_TEXT);
            if (c == '\'') return quoted(p + 1, c, T_BYTES);
            if (c == '#') return hash(p + 1);
            if (c == '*') return occur(p, 0);
            if (c == '+') return anOccur(p, 1, ENDLESS);
            if (c == '?') return anOccur(p, 0, 1);
            if (c == '.') return dots(p);
            if (c == '/') return slashes(p);
            if (c == '=') return sign(look(p + 1) == '>' ? T_ARROW : c, look(p + 1) == '>' ? p + 2 : p + 1);
            boolean single = c == '(' || c == ')' || c == '{' || c == '}' || c == '[' || c == ']' || c == '<' || c == '>'
                || c == ',' || c == ':' || c == '^' || c == '~' || c == '&';
            return single ? sign(c, p + 1) : NONE;
        }

        private int sign(int k, int q) {
            newKind = k;
            return q;
        }

        private int dots(int p) {
            if (look(p + 1) != '.') return startsName(look(p + 1)) ? named(p + 1, T_CONTROL) : NONE;
            return look(p + 2) == '.' ? sign(T_BELOW, p + 3) : sign(T_UP_TO, p + 2);
        }

        private int slashes(int p) {
            if (look(p + 1) == '=') return sign(T_MORE_TYPES, p + 2);
            if (look(p + 1) != '/') return sign('/', p + 1);
            return look(p + 2) == '=' ? sign(T_MORE_ENTRIES, p + 3) : sign(T_OR_ENTRIES, p + 2);
        }

        private int named(int p, int k) {
            int q = p;
            for (; q < stop; q++) {
                if (!goesOnName(look(q))) break;
            }
            for (; q > p; q--) {
                int last = look(q - 1);
                if (last != '-' && last != '.') break;
            }
            if (q - p > MAX_NAME) return NONE;
            newStart = p;
            newSize = q - p;
            return sign(k, q);
        }

        private int numberAt(int p, boolean less) {
            int f = behindFloat(p);
            if (f >= 0) return sign(T_FLOAT, f);
            int q = behindUint(p);
            if (q < 0) return NONE;
            // A number below 0 is kept as the major 1 that it would be: -1 less what is kept.
            boolean negative = less && number != 0;
            newHigh = negative ? 1 : 0;
            newLow = negative ? number - 1 : number;
            return sign(T_NUMBER, q);
        }

        private int occur(int star, long from) {
            newLow = below(MAX_OCCUR, from) ? MAX_OCCUR : from;
            int q = behindUint(star + 1);
            if (q < 0) return anOccur(star, newLow, ENDLESS);
            newHigh = below(MAX_OCCUR, number) ? MAX_OCCUR : number;
            return sign(T_OCCUR, q);
        }

        private int anOccur(int p, long from, long to) {
            newLow = from;
            newHigh = to;
            return sign(T_OCCUR, p + 1);
        }

        private int hash(int p) {
            boolean digit = isDigit(look(p));
            newHigh = digit ? look(p) - '0' : NONE;
            int q = digit ? p + 1 : p;
            int u = digit && look(q) == '.' ? behindUint(q + 1) : NONE;
            if (u < 0) return sign(T_HASH, q);
            newSize = 1;
            newLow = number;
            return sign(T_HASH, u);
        }

        /** Where the UINT at p ends, its value standing in number; NONE. */
        private int behindUint(int p) {
            int q;
            if (look(p) != '0') q = behindDigits(p, 10);
            else if (look(p + 1) == 'x') q = behindDigits(p + 2, 16);
            else if (look(p + 1) == 'b') q = behindDigits(p + 2, 2);
            else q = behindZero(p);
            return q >= 0 && !sticks(look(q)) ? q : NONE;
        }

        private int behindZero(int p) {
            number = 0;
            return p + 1;
        }

        private int behindDigits(int p, int base) {
            long value = 0;
            int q = p;
            for (; q < stop; q++) {
                int d = digit(look(q));
                if (d < 0 || d >= base) break;
                if (value < 0 || value > mostBefore(base, d)) return NONE;
                value = value * base + d;
            }
            number = value;
            return q > p ? q : NONE;
        }

        /** The greatest value that stays below 2^64 when this digit is put behind it. */
        private static long mostBefore(int base, int d) {
            if (base == 16) return (1L << 60) - 1;
            if (base == 2) return (1L << 62) - 1 + (1L << 62);
            return d <= 5 ? 1844674407370955161L : 1844674407370955160L;
        }

        private int behindFloat(int p) {
            int q = look(p) == '0' ? p + 1 : behindDigits(p, 10);
            if (q < 0) return NONE;
            boolean more = false;
            if (look(q) == '.' && isDigit(look(q + 1))) {
                more = true;
                q = behindPlain(q + 1);
            }
            if (look(q) == 'e' || look(q) == 'E') {
                int r = look(q + 1) == '+' || look(q + 1) == '-' ? q + 2 : q + 1;
                if (isDigit(look(r))) {
                    more = true;
                    q = behindPlain(r);
                }
            }
            return more && !sticks(look(q)) ? q : NONE;
        }

        private int behindPlain(int p) {
            int q = p;
            for (; q < stop; q++) {
                if (!isDigit(look(q))) break;
            }
            return q;
        }

        private int quoted(int p, int quote, int k) {
            int from = bodies;
            for (int q = p; q < stop; q++) {
                int c = look(q);
                if (c == quote) return closed(from, k, q + 1);
                if (c < 32 || c > 126) break;
                if (c == '\\') {
                    q++;
                    c = look(q) == quote ? quote : escaped(look(q));
                    if (c < 0) break;
                }
                addBody(c);
            }
            bodies = from;
            return NONE;
        }

        private int hexBytes(int p) {
            int from = bodies;
            int half = NONE;
            for (int q = p; q < stop; q++) {
                int c = look(q);
                int d = digit(c);
                if (c == '\'') {
                    if (half < 0) return closed(from, T_BYTES, q + 1);
                    break;
                }
                if (c == 10 || c == 13 || c == 32) continue;
                if (d < 0) break;
                if (half >= 0) addBody(half * 16 + d);
                half = half < 0 ? d : NONE;
            }
            bodies = from;
            return NONE;
        }

        private int closed(int from, int k, int q) {
            newStart = from;
            newSize = bodies - from;
            return sign(k, q);
        }

        private void addBody(int c) {
            putByte(text, bodies, c);
            bodies++;
        }

        private static int escaped(int c) {
            switch (c) {
                case '\\': return '\\';
                case '/': return '/';
                case 'b': return 8;
                case 'f': return 12;
                case 'n': return 10;
                case 'r': return 13;
                case 't': return 9;
                default: return NONE;
            }
        }

        private static boolean isDigit(int c) {
            return c >= '0' && c <= '9';
        }

        private static int digit(int c) {
            if (c >= '0' && c <= '9') return c - '0';
            if (c >= 'a' && c <= 'f') return c - 'a' + 10;
            if (c >= 'A' && c <= 'F') return c - 'A' + 10;
            return NONE;
        }

        /** What no number may be right before. */
        private static boolean sticks(int c) {
            return startsName(c) && c != '@' && c != '$' || isDigit(c);
        }

        private static boolean startsName(int c) {
            return c >= 'a' && c <= 'z' || c >= 'A' && c <= 'Z' || c == '@' || c == '_' || c == '$';
        }

        private static boolean goesOnName(int c) {
            return startsName(c) || isDigit(c) || c == '-' || c == '.';
        }
    }

    /**
     * The nodes that are read from tokens. Choices of a type, choices of a group, entries and arguments are chains by next.
     * NAME: first argument, what it leads to, its call; ARGUMENT: its type, and from where to where its nodes stand;
     * RANGE, CONTROL: left, right, which; ENTRY: its type or choices, its key, whose entry it is.
     */
    private static final class Tree {
        final int[] kind;
        final int[] token;
        final int[] next;
        final int[] first;
        final int[] second;
        final int[] third;
        final int[] mark;
        final int[] guard;
        final int[] deep;
        final int[] statement;
        int count;

        Tree() {
            kind = new int[NODE_ROOM];
            token = new int[NODE_ROOM];
            next = new int[NODE_ROOM];
            first = new int[NODE_ROOM];
            second = new int[NODE_ROOM];
            third = new int[NODE_ROOM];
            mark = new int[NODE_ROOM];
            guard = new int[NODE_ROOM];
            deep = new int[NODE_ROOM];
            statement = new int[NODE_ROOM];
        }

        int add(int k, int tok) {
            int n = count;
            if (n < 0 || n >= NODE_ROOM) return NONE;
            count++;
            kind[n] = k;
            token[n] = tok;
            next[n] = NONE;
            first[n] = NONE;
            second[n] = NONE;
            third[n] = NONE;
            mark[n] = 0;
            return n;
        }

        int kindOf(int n) {
            return n >= 0 && n < kind.length ? kind[n] : NONE;
        }

        int nextOf(int n) {
            return n >= 0 && n < next.length ? next[n] : NONE;
        }

        int firstOf(int n) {
            return n >= 0 && n < first.length ? first[n] : NONE;
        }

        int secondOf(int n) {
            return n >= 0 && n < second.length ? second[n] : NONE;
        }

        boolean isName(int n) {
            int k = n >= 0 && n < kind.length ? kind[n] : NONE;
            return k == N_NAME || k == N_UNWRAP || k == N_AND_NAME;
        }

        boolean isEntry(int n) {
            int k = at(kind, n);
            return k == N_ENTRY || k == N_GROUP_ENTRY || k == N_NAMED_ENTRY;
        }

        /** The token of a NAME: behind ~ and & it is the next one. */
        int nameToken(int n) {
            return at(kind, n) == N_NAME ? at(token, n) : at(token, n) + 1;
        }

        void append(int chain, int more) {
            int last = chain;
            for (int i = 0; i < NODE_ROOM && nextOf(last) >= 0; i++) last = nextOf(last);
            put(next, last, more);
        }

        int length(int chain) {
            int n = 0;
            for (int c = chain; c >= 0 && n < NODE_ROOM; c = nextOf(c)) n++;
            return n;
        }
    }

    /** One set of RULES. Statements and rules are numbered with those of the prelude in front, which stay. */
    private static final class Rules {
        final Tokens tokens;
        final Tree tree;
        final Instances instances;
        final int[] head;
        final int[] sign;
        final int[] params;
        final int[] choice;
        final int[] typed;
        final int[] owner;
        final int[] opening;
        final int[] told;
        final int[] grouped;
        final int[] chain;
        int statements;
        int count;
        int ownToken;
        int ownNode;
        int ownStatement;
        int ownRule;

        Rules() {
            tokens = new Tokens();
            tree = new Tree();
            instances = new Instances(tree);
            head = new int[RULE_ROOM];
            sign = new int[RULE_ROOM];
            params = new int[RULE_ROOM];
            choice = new int[RULE_ROOM];
            typed = new int[RULE_ROOM];
            owner = new int[RULE_ROOM];
            opening = new int[RULE_ROOM];
            told = new int[RULE_ROOM];
            grouped = new int[RULE_ROOM];
            chain = new int[RULE_ROOM];
        }

        void keepPrelude() {
            ownToken = tokens.count;
            ownNode = tree.count;
            ownStatement = statements;
            ownRule = count;
        }

        void begin() {
            tree.count = ownNode;
            statements = ownStatement;
            count = ownRule;
        }

        int addStatement(int headToken, int howMany, int by) {
            if (statements >= RULE_ROOM) return NONE;
            int s = statements;
            statements++;
            put(head, s, headToken);
            put(params, s, howMany);
            put(sign, s, by);
            put(owner, s, NONE);
            return s;
        }

        int addRule(int s) {
            if (count >= RULE_ROOM) return NONE;
            int r = count;
            count++;
            put(opening, r, s);
            put(told, r, 0);
            put(grouped, r, 0);
            put(chain, r, NONE);
            return r;
        }

        int ownRules() {
            return count - ownRule;
        }

        /** The rule that bears this number outside; NONE. */
        int numbered(int k) {
            return k >= 0 && k < count - ownRule ? ownRule + k : NONE;
        }

        /** The nodes of a statement stand in a row: from its choice up to the next statement's. */
        int firstNode(int s) {
            return at(choice, s);
        }

        int endNode(int s) {
            return s + 1 < statements ? at(choice, s + 1) : tree.count;
        }

        int headOf(int r) {
            return at(head, at(opening, r));
        }

        int nameByte(int r, int i) {
            return tokens.bodyByte(headOf(r), i);
        }

        int nameSize(int r) {
            return at(tokens.bodySize, headOf(r));
        }

        int paramsOf(int to) {
            return isRule(to) ? at(params, at(opening, to)) : 0;
        }

        boolean isRule(int to) {
            return to >= 0 && to < count;
        }

        boolean isOwn(int to) {
            return to >= ownRule && to < count;
        }

        boolean isGroup(int to) {
            return to == TO_NO_GROUP || isRule(to) && at(grouped, to) == 1;
        }

        int ruleOfNode(int n) {
            return at(owner, at(tree.statement, n));
        }

        /** The token of parameter i: NAME < p0 , p1 .. */
        int paramToken(int s, int i) {
            return at(head, s) + 2 + 2 * i;
        }

        /** Which of the rules from .. to - 1 has the NAME of this token; NONE. */
        int ruleNamed(int tok, int from, int to) {
            for (int r = from; r < to; r++) {
                if (tokens.sameBody(tok, headOf(r))) return r;
            }
            return NONE;
        }

        private int paramNamed(int tok, int s) {
            int n = at(params, s);
            for (int i = 0; i < n; i++) {
                if (tokens.sameBody(tok, paramToken(s, i))) return i;
            }
            return NONE;
        }

        /** What the NAME of this token leads to in this statement. */
        int target(int tok, int s) {
            int p = paramNamed(tok, s);
            if (p >= 0) return TO_PARAM + p;
            int r = ruleNamed(tok, ownRule, count);
            if (r < 0) r = ruleNamed(tok, 0, ownRule);
            if (r >= 0) return r;
            if (tokens.bodyByte(tok, 0) != '$') return TO_NOTHING;
            return tokens.bodyByte(tok, 1) == '$' ? TO_NO_GROUP : TO_NO_TYPE;
        }

        /** The node that a type is, without the ( ) around it; NONE if it has more choices than one. */
        int single(int type) {
            int n = type;
            for (int i = 0; i <= MAX_OPEN; i++) {
                if (n < 0 || tree.nextOf(n) >= 0) return NONE;
                if (tree.kindOf(n) != N_PAREN) return n;
                n = tree.firstOf(n);
            }
            return NONE;
        }

        /** The #6 ( ), [ ] or { } that a rule of one choice is, NAMES followed; NONE. */
        int box(int to) {
            int r = to;
            for (int i = 0; i < RULE_ROOM; i++) {
                if (!isRule(r) || isGroup(r)) return NONE;
                int n = single(at(chain, r));
                int k = tree.kindOf(n);
                if (k == N_TAG || k == N_ARRAY || k == N_MAP) return n;
                if (k != N_NAME) return NONE;
                r = tree.secondOf(n);
            }
            return NONE;
        }

        int choices(int r) {
            if (at(grouped, r) == 0) return tree.length(at(chain, r));
            int n = 0;
            for (int s = ownStatement; s < statements; s++) {
                if (at(owner, s) == r) n += choicesTold(tree.firstOf(at(choice, s)));
            }
            return n;
        }

        private int choicesTold(int entry) {
            boolean bare = tree.kindOf(entry) == N_GROUP_ENTRY && at(tree.token, entry) < 0;
            return bare ? tree.length(tree.firstOf(entry)) : 1;
        }

        int least(int entry) {
            int occur = at(tree.token, entry);
            return occur < 0 ? 1 : (int) longAt(tokens.low, occur);
        }

        int most(int entry) {
            int occur = at(tree.token, entry);
            return occur < 0 ? 1 : (int) longAt(tokens.high, occur);
        }
    }

    /** Reads tokens into nodes. A reader answers NONE when a token could not stand where it is. */
    private static final class Parser {
        private Rules rules;
        private Tokens tokens;
        private Tree tree;
        private int p;
        private int failed;
        private int statement;
        private int guard;
        private int deep;
        private int whose;
        private int scanned;

        Parser(Rules r) {
            rules = r;
            tokens = r.tokens;
            tree = r.tree;
        }

        int failedToken() {
            return failed;
        }

        boolean readRules(Rules r) {
            rules = r;
            tokens = r.tokens;
            tree = r.tree;
            p = r.ownToken;
            failed = p;
            for (int i = 0; i < MAX_TOKENS && peek() != T_END; i++) {
                if (!readStatement()) return false;
            }
            return peek() == T_END;
        }

        private int peek() {
            return tokens.kindOf(p);
        }

        private int fail() {
            failed = p;
            return NONE;
        }

        private boolean take(int k) {
            if (tokens.kindOf(p) != k) {
                failed = p;
                return false;
            }
            p++;
            return true;
        }

        private int grow(int k, int tok) {
            int n = tree.add(k, tok);
            put(tree.guard, n, guard);
            put(tree.deep, n, deep);
            put(tree.statement, n, statement);
            return n;
        }

        private boolean readStatement() {
            int head = p;
            if (!take(T_NAME)) return false;
            p = behindParams(p);
            if (!beginsBody(peek()) || scanned < 0) return fail() >= 0;
            int by = peek();
            p++;
            statement = rules.addStatement(head, scanned, by);
            guard = NONE;
            deep = 0;
            whose = NONE;
            int choice = grow(N_CHOICE, head);
            put(rules.choice, statement, choice);
            boolean typed = by != T_MORE_ENTRIES && readTypeBody(choice, by == '=');
            put(rules.typed, statement, typed ? 1 : 0);
            if (typed) return true;
            if (by == T_MORE_TYPES) return false;
            int entry = readEntry();
            put(tree.first, choice, entry);
            return entry >= 0;
        }

        private static boolean beginsBody(int k) {
            return k == '=' || k == T_MORE_TYPES || k == T_MORE_ENTRIES;
        }

        /** The token behind < NAME , NAME >, if it stands at q, how many being scanned; or the first one that can't stand. */
        private int behindParams(int q) {
            scanned = 0;
            if (tokens.kindOf(q) != '<') return q;
            int n = 0;
            for (int i = q; i < TOKEN_ROOM; i += 2) {
                scanned = NONE;
                if (tokens.kindOf(i + 1) != T_NAME) return i + 1;
                n++;
                int k = tokens.kindOf(i + 2);
                if (k == '>') {
                    scanned = n;
                    return i + 3;
                }
                if (k != ',') return i + 2;
            }
            return q;
        }

        private boolean atStatementEnd() {
            if (peek() == T_END) return true;
            if (peek() != T_NAME) return false;
            int q = behindParams(p + 1);
            return scanned >= 0 && beginsBody(tokens.kindOf(q));
        }

        /** A type told by a rule, as the one entry of a choice; where it must end and doesn't, nothing is read. */
        private boolean readTypeBody(int choice, boolean mustEnd) {
            int from = p;
            int nodes = tree.count;
            int entry = grow(N_ENTRY, NONE);
            int type = readType();
            if (type >= 0 && (!mustEnd || atStatementEnd())) {
                put(tree.first, entry, type);
                put(tree.third, entry, NONE);
                put(tree.first, choice, entry);
                return true;
            }
            if (mustEnd) goBack(from, nodes, NONE, 0, NONE);
            return false;
        }

        private void goBack(int token, int nodes, int guardThere, int deepThere, int whoseThere) {
            p = token;
            tree.count = nodes;
            guard = guardThere;
            deep = deepThere;
            whose = whoseThere;
        }

        private int readType() {
            return readChoices(readType1());
        }

        private int readChoices(int first) {
            int last = first;
            for (int i = 0; i < MAX_TOKENS && last >= 0 && peek() == '/'; i++) {
                p++;
                int more = readType1();
                put(tree.next, last, more);
                last = more;
            }
            return last < 0 ? NONE : first;
        }

        private int readType1() {
            int left = readType2();
            if (left < 0) return NONE;
            int k = peek();
            if (k == T_UP_TO || k == T_BELOW) {
                int n = grow(N_RANGE, p);
                p++;
                return joined(n, left, readType2(), k == T_BELOW ? 1 : 0);
            }
            if (k != T_CONTROL) return left;
            int n = grow(N_CONTROL, p);
            int which = controlNamed(p);
            p++;
            if (which != C_CBOR && which != C_CBORSEQ) return joined(n, left, readType2(), which);
            int outer = guard;
            int outerDeep = deep;
            guard = n;
            deep = 0;
            int right = readType2();
            guard = outer;
            deep = outerDeep;
            return joined(n, left, right, which);
        }

        private int joined(int n, int left, int right, int which) {
            put(tree.first, n, left);
            put(tree.second, n, right);
            put(tree.third, n, which);
            return right < 0 ? NONE : n;
        }

        private int controlNamed(int tok) {
            if (tokens.isWord(tok, "size")) return C_SIZE;
            if (tokens.isWord(tok, "bits")) return C_BITS;
            if (tokens.isWord(tok, "cbor")) return C_CBOR;
            if (tokens.isWord(tok, "cborseq")) return C_CBORSEQ;
            if (tokens.isWord(tok, "within") || tokens.isWord(tok, "and")) return C_AND;
            if (tokens.isWord(tok, "lt")) return C_LT;
            if (tokens.isWord(tok, "le")) return C_LE;
            if (tokens.isWord(tok, "gt")) return C_GT;
            if (tokens.isWord(tok, "ge")) return C_GE;
            if (tokens.isWord(tok, "eq")) return C_EQ;
            if (tokens.isWord(tok, "ne")) return C_NE;
            return tokens.isWord(tok, "default") ? C_DEFAULT : C_UNKNOWN;
        }

        private int readType2() {
            int tok = p;
            switch (peek()) {
                case T_NUMBER:
                case T_FLOAT:
                    p++;
                    return grow(N_NUMBER, tok);
                case T_TEXT:
                    p++;
                    return grow(N_TEXT, tok);
                case T_BYTES:
                    p++;
                    return grow(N_BYTES, tok);
                case T_NAME: return readName(N_NAME, tok);
                case T_HASH: return readHash(tok, longAt(tokens.high, tok), at(tokens.bodySize, tok) > 0);
                case '{': return readBox(N_MAP, '}');
                case '[': return readBox(N_ARRAY, ']');
                case '(':
                    p++;
                    return readParen(grow(N_PAREN, tok));
                case '~':
                    p++;
                    return peek() == T_NAME ? readName(N_UNWRAP, tok) : fail();
                case '&':
                    p++;
                    if (peek() == T_NAME) return readName(N_AND_NAME, tok);
                    return peek() == '(' ? readAndGroup(grow(N_AND_GROUP, tok)) : fail();
                default: return fail();
            }
        }

        private int readParen(int n) {
            deep++;
            int type = readType();
            deep--;
            if (type < 0 || !take(')')) return NONE;
            put(tree.first, n, type);
            return n;
        }

        private int readBox(int k, int close) {
            int n = grow(k, p);
            int outer = guard;
            int outerDeep = deep;
            int outerWhose = whose;
            p++;
            guard = n;
            deep = 0;
            whose = n;
            int group = readGroup();
            guard = outer;
            deep = outerDeep;
            whose = outerWhose;
            if (group < 0 || !take(close)) return NONE;
            put(tree.first, n, group);
            return n;
        }

        private int readAndGroup(int n) {
            int outerWhose = whose;
            p++;
            deep++;
            whose = n;
            int group = readGroup();
            deep--;
            whose = outerWhose;
            if (group < 0 || !take(')')) return NONE;
            put(tree.first, n, group);
            return n;
        }

        private int readHash(int tok, long digit, boolean more) {
            if (digit > 7 || more && digit < 6) return fail();
            p++;
            if (digit < 0) return grow(N_ANY, tok);
            if (digit < 6) return grow(N_MAJOR, tok);
            if (digit == 7) return grow(N_SEVEN, tok);
            int n = grow(N_TAG, tok);
            if (!take('(')) return NONE;
            int outer = guard;
            int outerDeep = deep;
            guard = n;
            deep = 0;
            int type = readType();
            guard = outer;
            deep = outerDeep;
            if (type < 0 || !take(')')) return NONE;
            put(tree.first, n, type);
            return n;
        }

        private int readName(int k, int tok) {
            int n = grow(k, tok);
            p++;
            if (peek() != '<') return n;
            deep++;
            int last = NONE;
            for (int i = 0; i < MAX_TOKENS; i++) {
                p++;
                int more = readArgument();
                if (more < 0) return NONE;
                if (last < 0) put(tree.first, n, more);
                else put(tree.next, last, more);
                last = more;
                if (peek() != ',') break;
            }
            deep--;
            return take('>') ? n : NONE;
        }

        private int readArgument() {
            int n = grow(N_ARGUMENT, p);
            int type = readType1();
            if (type < 0) return NONE;
            put(tree.first, n, type);
            put(tree.second, n, n + 1);
            put(tree.third, n, tree.count);
            return n;
        }

        private int readGroup() {
            int first = NONE;
            int last = NONE;
            for (int i = 0; i < MAX_TOKENS; i++) {
                int choice = grow(N_CHOICE, p);
                if (!readEntries(choice)) return NONE;
                if (first < 0) first = choice;
                else put(tree.next, last, choice);
                last = choice;
                if (peek() != T_OR_ENTRIES) return first;
                p++;
            }
            return fail();
        }

        private boolean readEntries(int choice) {
            int last = NONE;
            for (int i = 0; i < MAX_TOKENS && beginsEntry(peek()); i++) {
                int entry = readEntry();
                if (entry < 0) return false;
                if (last < 0) put(tree.first, choice, entry);
                else put(tree.next, last, entry);
                last = entry;
                if (peek() == ',') p++;
            }
            return true;
        }

        private static boolean beginsEntry(int k) {
            return k == T_OCCUR || k == T_NAME || k == T_NUMBER || k == T_FLOAT || k == T_TEXT || k == T_BYTES || k == T_HASH
                || k == '(' || k == '{' || k == '[' || k == '~' || k == '&';
        }

        private int readEntry() {
            int entry = grow(N_ENTRY, peek() == T_OCCUR ? p : NONE);
            put(tree.third, entry, whose);
            if (peek() == T_OCCUR) p++;
            if (peek() != '(') return readTyped(entry) ? entry : NONE;
            int from = p;
            int nodes = tree.count;
            int outer = guard;
            int outerDeep = deep;
            int outerWhose = whose;
            if (readTyped(entry)) return entry;
            goBack(from, nodes, outer, outerDeep, outerWhose);
            put(tree.kind, entry, N_GROUP_ENTRY);
            put(tree.second, entry, NONE);
            put(tree.mark, entry, 0);
            p++;
            deep++;
            int group = readGroup();
            deep--;
            if (group < 0 || !take(')')) return NONE;
            put(tree.first, entry, group);
            return entry;
        }

        /** [ key ] type. The mark of an entry tells that its key is a CUT. */
        private boolean readTyped(int entry) {
            int key = readShortKey();
            boolean cut = key >= 0;
            if (!cut) {
                int type = readType1();
                if (type < 0) return false;
                cut = peek() == '^';
                if (cut) p++;
                if (cut && peek() != T_ARROW) return fail() >= 0;
                if (peek() != T_ARROW) {
                    put(tree.first, entry, type);
                    return readChoices(type) >= 0;
                }
                p++;
                key = type;
            }
            put(tree.second, entry, key);
            put(tree.mark, entry, cut ? 1 : 0);
            int type = readType();
            put(tree.first, entry, type);
            return type >= 0;
        }

        /** A key with : behind it; NONE, and nothing is read, if there is none. */
        private int readShortKey() {
            if (tokens.kindOf(p + 1) != ':') return NONE;
            int k = NONE;
            if (peek() == T_NAME) k = N_WORD;
            if (peek() == T_NUMBER || peek() == T_FLOAT) k = N_NUMBER;
            if (peek() == T_TEXT) k = N_TEXT;
            if (peek() == T_BYTES) k = N_BYTES;
            if (k < 0) return NONE;
            int n = grow(k, p);
            p += 2;
            return n;
        }
    }

    /** Binds NAMES to rules and finds the FAULTS 2 to 8. */
    private static final class Checker {
        private Rules rules;
        private Tokens tokens;
        private Tree tree;
        private int blamed;
        private int fault;

        Checker(Rules r) {
            rules = r;
            tokens = r.tokens;
            tree = r.tree;
        }

        int blamedToken() {
            return blamed;
        }

        int firstFault(Rules r) {
            bind(r);
            checkFloats();
            for (int n = rules.ownNode; n < tree.count; n++) checkNode(n);
            if (fault == 0) {
                nameEntries();
                keepBoxes();
            }
            return fault;
        }

        void bind(Rules r) {
            rules = r;
            tokens = r.tokens;
            tree = r.tree;
            blamed = NONE;
            fault = 0;
            for (int s = rules.ownStatement; s < rules.statements; s++) collect(s);
            for (int n = rules.ownNode; n < tree.count; n++) bindNode(n);
            for (int k = rules.ownRule; k < rules.count; k++) put(rules.grouped, k, tellsGroup(at(rules.opening, k)) ? 1 : 0);
            for (int s = rules.ownStatement; s < rules.statements; s++) link(s);
        }

        /** Tokens stand in the order of the text, so the least token is the first place. */
        private void blame(int tok, int number) {
            boolean sooner = fault == 0 || tok < blamed || tok == blamed && number < fault;
            if (!sooner) return;
            blamed = tok;
            fault = number;
        }

        private void collect(int s) {
            int tok = at(rules.head, s);
            int r = rules.ruleNamed(tok, rules.ownRule, rules.count);
            boolean known = r >= 0;
            if (rules.ruleNamed(tok, 0, rules.ownRule) >= 0) blame(tok, 2);
            if (!known) {
                r = rules.addRule(s);
                if (rules.ownRules() == MAX_RULES + 1) blame(tok, 3);
            }
            put(rules.owner, s, r);
            if (at(rules.sign, s) == '=') {
                if (at(rules.told, r) == 1) blame(tok, 2);
                put(rules.told, r, 1);
            }
            if (known && !sameParams(s, at(rules.opening, r))) blame(tok, 2);
            checkParams(s);
        }

        private boolean sameParams(int s, int other) {
            int n = at(rules.params, s);
            if (n != at(rules.params, other)) return false;
            for (int i = 0; i < n; i++) {
                if (!tokens.sameBody(rules.paramToken(s, i), rules.paramToken(other, i))) return false;
            }
            return true;
        }

        private void checkParams(int s) {
            int n = at(rules.params, s);
            for (int i = 0; i < n; i++) {
                int tok = rules.paramToken(s, i);
                if (i == MAX_PARAMS) blame(tok, 3);
                for (int j = 0; j < i; j++) {
                    if (tokens.sameBody(tok, rules.paramToken(s, j))) blame(tok, 2);
                }
            }
        }

        /** The mark of a NAME: 1 alone in an entry, 2 alone behind the = or /= of a rule. */
        private void bindNode(int n) {
            int s = at(tree.statement, n);
            if (tree.isName(n)) put(tree.second, n, rules.target(tree.nameToken(n), s));
            if (tree.kindOf(n) != N_ENTRY || tree.secondOf(n) >= 0) return;
            int only = rules.single(tree.firstOf(n));
            if (!tree.isName(only)) return;
            boolean whole = at(rules.typed, s) == 1 && tree.firstOf(at(rules.choice, s)) == n;
            put(tree.mark, only, whole ? 2 : 1);
        }

        /** Whether a statement tells a GROUP: an entry, or just a NAME of a GROUP. Asked before choices are linked. */
        private boolean tellsGroup(int statement) {
            int s = statement;
            for (int i = 0; i < RULE_ROOM; i++) {
                if (at(rules.typed, s) != 1) return true;
                int n = rules.single(tree.firstOf(tree.firstOf(at(rules.choice, s))));
                if (tree.kindOf(n) != N_NAME) return false;
                int to = tree.secondOf(n);
                if (to == TO_NO_GROUP) return true;
                if (!rules.isRule(to)) return false;
                s = at(rules.opening, to);
            }
            return false;
        }

        /** Puts what a statement tells behind what its rule has already. */
        private void link(int s) {
            int r = at(rules.owner, s);
            boolean group = at(rules.grouped, r) == 1;
            if (s != at(rules.opening, r) && tellsGroup(s) != group) blame(at(rules.head, s), 2);
            int choice = at(rules.choice, s);
            // What is told as a GROUP where it must be a TYPE is a choice more of it, too.
            int more = group || at(rules.typed, s) != 1 ? choice : tree.firstOf(tree.firstOf(choice));
            if (at(rules.chain, r) < 0) put(rules.chain, r, more);
            else tree.append(at(rules.chain, r), more);
        }

        private void checkFloats() {
            for (int i = rules.ownToken; i < tokens.count; i++) {
                if (tokens.kindOf(i) == T_FLOAT) blame(i, 7);
            }
        }

        private void checkNode(int n) {
            int k = tree.kindOf(n);
            if (tree.isName(n)) checkName(n, k);
            if (k == N_RANGE) {
                needNumber(tree.firstOf(n));
                needNumber(tree.secondOf(n));
            }
            if (k == N_CONTROL) checkControl(n, at(tree.third, n));
        }

        private void checkName(int n, int k) {
            int tok = tree.nameToken(n);
            int to = tree.secondOf(n);
            if (to == TO_NOTHING) blame(tok, 4);
            if (tree.length(tree.firstOf(n)) != rules.paramsOf(to)) blame(tok, 5);
            if (k == N_NAME && rules.isGroup(to) && at(tree.mark, n) == 0) blame(tok, 6);
            if (k == N_AND_NAME && !rules.isGroup(to)) blame(tok, 6);
            if (k == N_UNWRAP && !canUnwrap(rules.box(to), at(tree.mark, n))) blame(tok, 6);
        }

        private boolean canUnwrap(int box, int mark) {
            int k = tree.kindOf(box);
            return k == N_TAG || (k == N_ARRAY || k == N_MAP) && mark == 1;
        }

        private void needNumber(int n) {
            if (tree.kindOf(n) != N_NUMBER) blame(at(tree.token, n), 8);
        }

        private void checkControl(int n, int which) {
            if (which == C_UNKNOWN) blame(at(tree.token, n), 8);
            int right = tree.secondOf(n);
            int k = tree.kindOf(right);
            if (which >= C_LT && which <= C_GE) needNumber(right);
            if ((which == C_EQ || which == C_NE) && k != N_TEXT && k != N_BYTES) needNumber(right);
        }

        /** Entries that are just a NAME of a GROUP, or ~ NAME of an array or a map, become groups themselves. */
        private void nameEntries() {
            for (int n = rules.ownNode; n < tree.count; n++) {
                if (tree.kindOf(n) != N_ENTRY || tree.secondOf(n) >= 0) continue;
                int only = rules.single(tree.firstOf(n));
                int k = tree.kindOf(only);
                int to = tree.secondOf(only);
                boolean named = k == N_NAME && rules.isGroup(to);
                boolean unwrapped = k == N_UNWRAP && tree.kindOf(rules.box(to)) != N_TAG;
                if (!named && !unwrapped) continue;
                put(tree.kind, n, N_NAMED_ENTRY);
                put(tree.first, n, only);
            }
        }

        /** From here on the mark of ~ NAME is its box. */
        private void keepBoxes() {
            for (int n = rules.ownNode; n < tree.count; n++) {
                if (tree.kindOf(n) == N_UNWRAP) put(tree.mark, n, rules.box(tree.secondOf(n)));
            }
        }
    }

    /**
     * The INSTANCES of rules with parameters, numbered from 1 on; 0 stands for a rule without.
     * An ARGUMENT is an argument's node and the instance in which it is read.
     */
    private static final class Instances {
        private final Tree tree;
        private final int[] calls;
        private final int[] madeOf;
        private final int[] argument;
        private final int[] argumentIn;
        private final int[] newArgument;
        private final int[] newIn;
        int count;
        int box;
        int boxIn;

        Instances(Tree t) {
            tree = t;
            calls = new int[CALL_ROOM * (MAX_INSTANCES + 1)];
            madeOf = new int[MAX_INSTANCES + 1];
            argument = new int[(MAX_INSTANCES + 1) * MAX_PARAMS];
            argumentIn = new int[(MAX_INSTANCES + 1) * MAX_PARAMS];
            newArgument = new int[MAX_PARAMS];
            newIn = new int[MAX_PARAMS];
        }

        int ruleOf(int instance) {
            return at(madeOf, instance);
        }

        int argumentOf(int instance, int i) {
            return at(argument, instance * MAX_PARAMS + i);
        }

        int argumentPlace(int instance, int i) {
            return at(argumentIn, instance * MAX_PARAMS + i);
        }

        /** The instance that a NAME leads to, where it is read in this one. */
        int lead(int name, int in) {
            int call = at(tree.third, name);
            return call < 0 ? 0 : at(calls, call * (MAX_INSTANCES + 1) + in);
        }

        /** Sets box and boxIn: the #6 ( ), [ ] or { } that ~ NAME means, and the instance in which it is read. */
        void unwrap(Rules rules, int name, int in) {
            int n = name;
            boxIn = in;
            for (int i = 0; i < RULE_ROOM; i++) {
                boxIn = lead(n, boxIn);
                box = rules.single(at(rules.chain, tree.secondOf(n)));
                if (tree.kindOf(box) != N_NAME) return;
                n = box;
            }
        }

        /** Makes all instances; false if they are too many. */
        boolean fill(Rules rules) {
            numberCalls(rules);
            count = 0;
            for (int r = rules.ownRule; r < rules.count; r++) {
                if (rules.paramsOf(r) == 0 && !callAll(rules, r, 0)) return false;
            }
            for (int i = 1; i <= count && i <= MAX_INSTANCES; i++) {
                if (!callAll(rules, ruleOf(i), i)) return false;
            }
            return true;
        }

        private void numberCalls(Rules rules) {
            int n = 0;
            for (int i = rules.ownNode; i < tree.count; i++) {
                if (!tree.isName(i) || tree.firstOf(i) < 0) continue;
                put(tree.third, i, n);
                n++;
            }
            for (int i = 0; i < n * (MAX_INSTANCES + 1); i++) put(calls, i, 0);
        }

        private boolean callAll(Rules rules, int rule, int in) {
            for (int s = rules.ownStatement; s < rules.statements; s++) {
                boolean told = at(rules.owner, s) == rule;
                if (told && !callStatement(rules, s, in)) return false;
            }
            return true;
        }

        private boolean callStatement(Rules rules, int s, int in) {
            int end = rules.endNode(s);
            for (int n = rules.firstNode(s); n < end; n++) {
                if (!tree.isName(n) || tree.firstOf(n) < 0) continue;
                int instance = called(rules, n, in);
                if (instance < 0) return false;
                int row = at(tree.third, n) * (MAX_INSTANCES + 1);
                put(calls, row + in, instance);
                // In an ARGUMENT without parameters it is read in no instance, and leads to the same one.
                if (!hasParams(n)) put(calls, row, instance);
            }
            return true;
        }

        private int called(Rules rules, int name, int in) {
            int n = 0;
            for (int a = tree.firstOf(name); a >= 0 && n < MAX_PARAMS; a = tree.nextOf(a)) {
                bindArgument(rules, a, in, n);
                n++;
            }
            int rule = tree.secondOf(name);
            for (int i = 1; i <= count; i++) {
                if (ruleOf(i) == rule && sameArguments(i, n)) return i;
            }
            if (count >= MAX_INSTANCES) return NONE;
            count++;
            put(madeOf, count, rule);
            for (int i = 0; i < n; i++) {
                put(argument, count * MAX_PARAMS + i, at(newArgument, i));
                put(argumentIn, count * MAX_PARAMS + i, at(newIn, i));
            }
            return count;
        }

        private void bindArgument(Rules rules, int a, int in, int i) {
            int type = tree.firstOf(a);
            int param = tree.kindOf(type) == N_NAME ? tree.secondOf(type) - TO_PARAM : NONE;
            boolean passed = param >= 0;
            put(newArgument, i, passed ? argumentOf(in, param) : a);
            put(newIn, i, passed ? argumentPlace(in, param) : holdsParams(a) ? in : 0);
        }

        /** Whether there are parameters in the arguments of a NAME. */
        private boolean hasParams(int name) {
            int i = 0;
            for (int a = tree.firstOf(name); a >= 0 && i < MAX_PARAMS; a = tree.nextOf(a)) {
                if (holdsParams(a)) return true;
                i++;
            }
            return false;
        }

        private boolean holdsParams(int a) {
            for (int n = tree.secondOf(a); n < at(tree.third, a); n++) {
                if (tree.isName(n) && tree.secondOf(n) >= TO_PARAM) return true;
            }
            return false;
        }

        private boolean sameArguments(int instance, int n) {
            for (int i = 0; i < n; i++) {
                if (argumentOf(instance, i) != at(newArgument, i) || argumentPlace(instance, i) != at(newIn, i)) return false;
            }
            return true;
        }
    }

    /** Finds the FAULTS 9 and 10: what leads to itself, and what is too much. */
    private static final class Limits {
        private Rules rules;
        private Tree tree;
        private Instances instances;
        private final int[] seen;
        private final int[] queue;
        private int queued;
        private int round;
        private int used;
        private final int[] depths;
        private final int[] inside;
        private final int[] argumentDepths;
        private boolean changed;

        Limits(Rules r) {
            rules = r;
            tree = r.tree;
            instances = r.instances;
            seen = new int[RULE_ROOM + NODE_ROOM];
            queue = new int[RULE_ROOM + NODE_ROOM + 1];
            depths = new int[RULE_ROOM + MAX_INSTANCES + 1];
            inside = new int[RULE_ROOM + MAX_INSTANCES + 1];
            argumentDepths = new int[(MAX_INSTANCES + 1) * MAX_PARAMS];
        }

        /** The token of the first NAME that leads to itself; NONE. */
        int firstLoop(Rules r) {
            rules = r;
            tree = r.tree;
            instances = r.instances;
            used = RULE_ROOM + tree.count;
            for (int i = 0; i < used; i++) put(seen, i, 0);
            round = 0;
            int loop = NONE;
            for (int k = rules.ownRule; k < rules.count && loop < 0; k++) {
                reach(k, false);
                if (at(seen, k) == round) loop = rules.headOf(k);
            }
            for (int n = rules.ownNode; n < tree.count; n++) {
                if (tree.kindOf(n) != N_UNWRAP) continue;
                int tok = tree.nameToken(n);
                if ((loop < 0 || tok < loop) && meetsItself(n)) loop = tok;
            }
            return loop;
        }

        private boolean meetsItself(int n) {
            int box = ownBox(n);
            if (box < 0) return false;
            reach(RULE_ROOM + box, true);
            return at(seen, context(n)) == round;
        }

        /** The box of a ~ NAME, if it stands in the text and not in the prelude. */
        private int ownBox(int n) {
            int box = at(tree.mark, n);
            return box >= rules.ownNode ? box : NONE;
        }

        /** Where a node stands free: right in a rule, or in a box (then the box's number behind those of rules). */
        private int context(int n) {
            int guard = at(tree.guard, n);
            return guard < 0 ? rules.ruleOfNode(n) : RULE_ROOM + guard;
        }

        /** Marks all contexts that NAMES lead to from one; that one itself only if they lead back, or if it counts. */
        private void reach(int from, boolean counts) {
            round++;
            queued = 1;
            put(queue, 0, from);
            if (counts) put(seen, from, round);
            for (int i = 0; i < queued && i < queue.length; i++) leadOn(at(queue, i));
        }

        private void see(int context) {
            if (at(seen, context) == round) return;
            put(seen, context, round);
            put(queue, queued, context);
            queued++;
        }

        private void leadOn(int context) {
            int held = context < RULE_ROOM ? NONE : at(tree.statement, context - RULE_ROOM);
            for (int s = rules.ownStatement; s < rules.statements; s++) {
                if (held < 0 ? at(rules.owner, s) == context : s == held) leadOnIn(s, context);
            }
        }

        private void leadOnIn(int s, int context) {
            int guard = context < RULE_ROOM ? NONE : context - RULE_ROOM;
            int end = rules.endNode(s);
            for (int n = rules.firstNode(s); n < end; n++) {
                if (!tree.isName(n) || at(tree.guard, n) != guard) continue;
                if (rules.isOwn(tree.secondOf(n))) see(tree.secondOf(n));
                int box = tree.kindOf(n) == N_UNWRAP ? ownBox(n) : NONE;
                if (box >= 0) see(RULE_ROOM + box);
            }
        }

        /** Whether a group has too many entries. What GROUPS have is counted again until nothing changes. */
        boolean groupsTooLarge() {
            for (int i = 0; i < used; i++) put(seen, i, 0);
            for (int time = 0; time <= MAX_ENTRIES + 1; time++) {
                for (int i = 0; i < used; i++) put(queue, i, 0);
                for (int n = rules.ownNode; n < tree.count; n++) {
                    if (countEntry(n) > MAX_ENTRIES) return true;
                }
                changed = false;
                for (int i = 0; i < used; i++) {
                    if (at(seen, i) != at(queue, i)) changed = true;
                    put(seen, i, at(queue, i));
                }
                if (!changed) return false;
            }
            return true;
        }

        /** Adds an entry to what it stands in: a rule's GROUP, or a [ ], { }, & ( ). How many that has then. */
        private int countEntry(int n) {
            if (!tree.isEntry(n)) return 0;
            int whose = at(tree.third, n);
            int rule = rules.ruleOfNode(n);
            // The one entry that a rule of a TYPE is kept in is none.
            if (whose < 0 && at(rules.grouped, rule) == 0) return 0;
            int counter = whose < 0 ? rule : RULE_ROOM + whose;
            put(queue, counter, at(queue, counter) + 1 + countWithin(n));
            return at(queue, counter);
        }

        private int countWithin(int n) {
            if (tree.kindOf(n) != N_NAMED_ENTRY) return 0;
            int name = tree.firstOf(n);
            int to = tree.secondOf(name);
            if (tree.kindOf(name) == N_UNWRAP) return Math.max(0, at(seen, RULE_ROOM + at(tree.mark, name)));
            return rules.isOwn(to) ? at(seen, to) : 0;
        }

        /** Whether a PATH is too long. Depths grow from round to round until nothing changes. */
        boolean pathsTooLong() {
            for (int i = 0; i < depths.length; i++) {
                put(depths, i, 0);
                put(inside, i, 0);
            }
            for (int i = 0; i < argumentDepths.length; i++) put(argumentDepths, i, 0);
            for (int time = 0; time <= 4 * MAX_PATH; time++) {
                changed = false;
                // Most rules name later ones, and instances make later ones: the last ones first, less is to do again.
                for (int i = instances.count; i > 0; i--) {
                    measureArguments(i);
                    if (measure(instances.ruleOf(i), i) > MAX_PATH) return true;
                }
                for (int r = rules.count - 1; r >= rules.ownRule; r--) {
                    if (rules.paramsOf(r) == 0 && measure(r, 0) > MAX_PATH) return true;
                }
                if (!changed) return false;
            }
            return true;
        }

        private void raise(int[] row, int i, int value) {
            if (value <= at(row, i)) return;
            put(row, i, value);
            changed = true;
        }

        /** The longest PATH in a rule's text, as far as it is known; kept: that from the rule, and that from in its box. */
        private int measure(int rule, int instance) {
            int entity = instance > 0 ? RULE_ROOM + instance : rule;
            int box = rules.box(rule);
            int most = 0;
            for (int s = rules.ownStatement; s < rules.statements; s++) {
                if (at(rules.owner, s) != rule) continue;
                int end = rules.endNode(s);
                for (int n = rules.firstNode(s); n < end; n++) {
                    int length = pathTo(n, instance);
                    most = Math.max(most, length);
                    if (at(tree.guard, n) < 0) raise(depths, entity, length);
                    else if (at(tree.guard, n) == box) raise(inside, entity, length);
                }
            }
            return most;
        }

        private void measureArguments(int instance) {
            int n = rules.paramsOf(instances.ruleOf(instance));
            for (int i = 0; i < n && i < MAX_PARAMS; i++) {
                int a = instances.argumentOf(instance, i);
                int in = instances.argumentPlace(instance, i);
                for (int k = tree.secondOf(a); k < at(tree.third, a); k++) {
                    if (at(tree.guard, k) != at(tree.guard, a)) continue;
                    raise(argumentDepths, instance * MAX_PARAMS + i, pathTo(k, in) - at(tree.deep, a));
                }
            }
        }

        /** How long the PATH is, from where it began, that ends with this node or behind its NAME; 0 for a node that is in none. */
        private int pathTo(int n, int instance) {
            int k = tree.kindOf(n);
            boolean bracket = k == N_PAREN || k == N_MAP || k == N_ARRAY || k == N_TAG || k == N_AND_GROUP || k == N_GROUP_ENTRY;
            if (bracket) return at(tree.deep, n) + 1;
            if (!tree.isName(n)) return 0;
            int to = tree.secondOf(n);
            int behind = 0;
            if (to >= TO_PARAM) behind = at(argumentDepths, instance * MAX_PARAMS + to - TO_PARAM);
            else if (rules.isOwn(to)) behind = behindName(n, to, instance);
            return at(tree.deep, n) + 1 + behind;
        }

        private int behindName(int n, int to, int instance) {
            int led = instances.lead(n, instance);
            int behind = at(depths, led > 0 ? RULE_ROOM + led : to);
            if (tree.kindOf(n) != N_UNWRAP) return behind;
            instances.unwrap(rules, n, instance);
            if (instances.box < rules.ownNode) return behind;
            int held = instances.boxIn > 0 ? RULE_ROOM + instances.boxIn : rules.ruleOfNode(instances.box);
            return Math.max(behind, at(inside, held));
        }
    }

    /**
     * Items: level 0 is the ITEM, levels 1 to 3 are those in bytes, one within another. From FREE_NUMBERS on an item
     * is just a number of major 0, which stands nowhere.
     */
    private static final class Items {
        static final int LEVEL_ITEMS = MAX_ITEMS + 1;
        static final int FREE_NUMBERS = 1024;
        private static final int LEVEL_BYTES = 2 * TAPE_ROOM;
        private static final int ROOM = LEVEL_ITEMS * (MAX_NESTED + 1);

        private final byte[] data;
        private final int[] major;
        private final int[] width;
        private final int[] start;
        private final int[] behind;
        private final int[] parent;
        private final int[] after;
        private final int[] depth;
        private final int[] content;
        private final long[] number;
        private int top;
        private int count;
        private int limit;
        private int region;
        private int stop;
        private int joined;
        private int fault;

        Items() {
            data = new byte[LEVEL_BYTES * (MAX_NESTED + 1)];
            major = new int[ROOM];
            width = new int[ROOM];
            start = new int[ROOM];
            behind = new int[ROOM];
            parent = new int[ROOM];
            after = new int[ROOM];
            depth = new int[ROOM];
            content = new int[ROOM];
            number = new long[ROOM];
        }

        boolean isTop(int i) {
            return i >= 0 && i < top;
        }

        int keepTop() {
            top = count;
            return top;
        }

        int faultPlace() {
            return fault;
        }

        int majorOf(int i) {
            return i >= FREE_NUMBERS ? 0 : at(major, i);
        }

        long numberOf(int i) {
            return i >= FREE_NUMBERS ? i - FREE_NUMBERS : longAt(number, i);
        }

        int widthOf(int i) {
            return i >= FREE_NUMBERS ? 0 : at(width, i);
        }

        int afterOf(int i) {
            return at(after, i);
        }

        int depthOf(int i) {
            return at(depth, i);
        }

        int startOf(int i) {
            return at(start, i);
        }

        int behindOf(int i) {
            return at(behind, i);
        }

        int levelOf(int i) {
            return i >= FREE_NUMBERS ? 0 : i / LEVEL_ITEMS;
        }

        /** Byte j of bytes or text, parts joined. */
        int byteOf(int i, long j) {
            return j >= 0 && j < numberOf(i) ? byteAt(data, at(content, i) + (int) j) : NONE;
        }

        int dataAt(int p) {
            return byteAt(data, p);
        }

        long told(int k, int what) {
            if (!isTop(k) || what < 0) return NONE;
            int m = majorOf(k);
            switch (what) {
                case 0: return m;
                case 1: return numberOf(k);
                case 2: return widthOf(k);
                case 3: return startOf(k);
                case 4: return behindOf(k);
                case 5: return at(parent, k);
                default: return m == 2 || m == 3 ? byteOf(k, what - 6) : NONE;
            }
        }

        /** Reads one item, that has n bytes of a row, into a level. */
        boolean readOne(int level, byte[] from, int offset, int n, int deep) {
            open(level, from, offset, n);
            int q = readItem(region, NONE, deep);
            if (q >= 0 && q < stop) bad(q);
            return fault < 0;
        }

        /**
         * Reads the bytes of an item into the next level: as one item, or as items in an array that stands nowhere.
         * Where that stands; NONE.
         */
        int readWithin(int i, boolean one) {
            int level = levelOf(i) + 1;
            if (level > MAX_NESTED) return NONE;
            open(level, data, at(content, i), (int) numberOf(i));
            int held = count;
            int deep = depthOf(i) + 1;
            if (one) return readItem(region, NONE, deep) == stop ? held : NONE;
            count++;
            limit++;
            put(major, held, 4);
            put(width, held, 0);
            put(depth, held, depthOf(i));
            int p = region;
            int n = 0;
            for (; n <= MAX_LIST && p >= 0 && p < stop; n++) p = n < MAX_LIST ? readItem(p, held, deep) : NONE;
            putLong(number, held, n);
            put(after, held, count);
            return p < 0 ? NONE : held;
        }

        private void open(int level, byte[] from, int offset, int n) {
            region = level * LEVEL_BYTES;
            copy(from, offset, data, region, n);
            stop = region + n;
            joined = region + TAPE_ROOM;
            count = level * LEVEL_ITEMS;
            limit = count + MAX_ITEMS;
            fault = NONE;
        }

        private int bad(int p) {
            fault = p - region;
            return NONE;
        }

        /** Where the item at p ends; NONE when it is not WELL-FORMED. */
        private int readItem(int p, int within, int deep) {
            if (p >= stop) return bad(stop);
            if (count >= limit || deep > MAX_DEPTH) return bad(p);
            int i = count;
            int q = readHead(p, i);
            if (q < 0) return NONE;
            count++;
            put(parent, i, within);
            put(depth, i, deep);
            int m = at(major, i);
            if (m == 2 || m == 3) q = readString(i, q, m);
            if (m == 4 || m == 5) q = readList(i, q, m - 3, deep);
            if (m == 6) q = readItem(q, i, deep + 1);
            put(behind, i, q - region);
            put(after, i, count);
            return q;
        }

        /** An initial byte and the bytes of its number, kept as those of item i; a BREAK is none. */
        private int readHead(int p, int i) {
            int m = byteAt(data, p) >> 5;
            int info = byteAt(data, p) & 31;
            if (info >= 28 && info < 31 || info == 31 && (m < 2 || m > 5)) return bad(p);
            int w = info < 24 || info == 31 ? 0 : 1 << (info - 24);
            if (p + 1 + w > stop) return bad(stop);
            long value = info < 24 ? info : 0;
            for (int k = 1; k <= w; k++) value = value << 8 | byteAt(data, p + k);
            if (m == 7 && w == 1 && value < 32) return bad(p + 1);
            if ((m == 4 || m == 5) && below(MAX_LIST, value)) return bad(p);
            put(major, i, m);
            put(width, i, info == 31 ? 31 : w);
            put(start, i, p - region);
            putLong(number, i, value);
            return p + 1 + w;
        }

        private int readString(int i, int p, int m) {
            put(content, i, p);
            if (at(width, i) != 31) return behindBytes(p, longAt(number, i));
            put(content, i, joined);
            int q = p;
            for (int k = 0; k <= TAPE_ROOM && q < stop; k++) {
                if (byteAt(data, q) == 255) {
                    putLong(number, i, joined - at(content, i));
                    return q + 1;
                }
                if (byteAt(data, q) >> 5 != m || (byteAt(data, q) & 31) > 27) return bad(q);
                int from = readPartHead(q);
                int to = from < 0 ? NONE : behindBytes(from, partSize(q));
                if (to < 0) return NONE;
                copy(data, from, data, joined, to - from);
                joined += to - from;
                q = to;
            }
            return bad(stop);
        }

        private int behindBytes(int p, long n) {
            return below(stop - p, n) ? bad(stop) : p + (int) n;
        }

        private int readPartHead(int p) {
            int info = byteAt(data, p) & 31;
            int w = info < 24 ? 0 : 1 << (info - 24);
            return p + 1 + w > stop ? bad(stop) : p + 1 + w;
        }

        /** How many bytes the part has whose head at p is there. */
        long partSize(int p) {
            int info = byteAt(data, p) & 31;
            if (info < 24) return info;
            long value = 0;
            int w = info > 27 ? 0 : 1 << (info - 24);
            for (int k = 1; k <= w; k++) value = value << 8 | byteAt(data, p + k);
            return value;
        }

        /** Where the bytes begin of the part whose head at p is there. */
        int partStart(int p) {
            int info = byteAt(data, p) & 31;
            return info < 24 || info > 27 ? p + 1 : p + 1 + (1 << (info - 24));
        }

        private int readList(int i, int p, int each, int deep) {
            boolean endless = at(width, i) == 31;
            int most = endless ? MAX_LIST : (int) longAt(number, i);
            int q = p;
            for (int k = 0; k <= MAX_LIST; k++) {
                if (!endless && k == most) return q;
                if (q >= stop) return bad(stop);
                if (endless && byteAt(data, q) == 255) {
                    putLong(number, i, k);
                    return q + 1;
                }
                if (k == most) return bad(q);
                for (int half = 0; half < each; half++) {
                    q = readItem(q, i, deep + 1);
                    if (q < 0) return NONE;
                }
            }
            return NONE;
        }
    }

    /**
     * Answers that have been found already, so that none is looked for twice: without them, rules that name others
     * twice each would ask for a power of two. An old answer may be driven out by a new one.
     */
    private static final class Memo {
        static final int TYPE = 0;
        static final int TAKEN = 1;
        static final int WAYS = 2;
        static final int PART = 3;
        private static final int SIZE = 8192;
        private static final int TRIES = 4;
        private static final long LAST_STAMP = 1L << 23;
        private static final long LAST_SPOT = (1L << 20) - 1;

        private final long[] keys;
        private final long[] values;
        private final int[] stamps;
        private int lastStamp;

        Memo() {
            keys = new long[SIZE];
            values = new long[SIZE];
            stamps = new int[MAX_NESTED + 1];
            lastStamp = 0;
            for (int level = 0; level <= MAX_NESTED; level++) renew(level);
        }

        /** What was found for the items of a level holds no more. */
        void renew(int level) {
            lastStamp++;
            put(stamps, level, lastStamp);
        }

        /** Begins to count anew before the stamps run out; only between two calls. */
        void rest() {
            if (lastStamp < LAST_STAMP) return;
            lastStamp = 0;
            for (int i = 0; i < SIZE; i++) putLong(keys, i, 0);
            for (int level = 0; level <= MAX_NESTED; level++) renew(level);
        }

        /** The key of what is asked: of which sort, of which node in which instance, of which item and where in it. */
        long key(int sort, int n, int in, int item, int where) {
            int level = item >= Items.FREE_NUMBERS ? 0 : item / Items.LEVEL_ITEMS;
            // Numbers that stand nowhere count down from the greatest spot, far from those of items.
            long spot = item >= Items.FREE_NUMBERS ? LAST_SPOT + Items.FREE_NUMBERS - item : (long) item << 10 | where;
            return (((long) at(stamps, level) << 10 | n) << 7 | in) << 22 | (long) sort << 20 | spot;
        }

        /** Where the answer stands; NONE. */
        int find(long key) {
            int first = slot(key);
            for (int i = 0; i < TRIES; i++) {
                int s = first + i & SIZE - 1;
                if (longAt(keys, s) == key) return s;
            }
            return NONE;
        }

        long answer(int s) {
            return longAt(values, s);
        }

        void keep(long key, long value) {
            int first = slot(key);
            int s = first;
            for (int i = 0; i < TRIES; i++) {
                int t = first + i & SIZE - 1;
                if (longAt(keys, t) == key || isPast(longAt(keys, t))) {
                    s = t;
                    break;
                }
            }
            putLong(keys, s, key);
            putLong(values, s, value);
        }

        private boolean isPast(long key) {
            long stamp = key >>> 39;
            for (int level = 0; level <= MAX_NESTED; level++) {
                if (at(stamps, level) == stamp) return false;
            }
            return true;
        }

        private static int slot(long key) {
            return (int) ((key * 0x9E3779B97F4A7C15L) >>> 51) & SIZE - 1;
        }
    }

    /** What is told of an item by one token, or by a range or a comparison of two. */
    private static final class Leaves {
        private Tokens tokens;
        private Tree tree;
        private final Items items;

        Leaves(Rules r, Items all) {
            tokens = r.tokens;
            tree = r.tree;
            items = all;
        }

        void obey(Rules r) {
            tokens = r.tokens;
            tree = r.tree;
        }

        boolean isSo(int n, int item) {
            int tok = at(tree.token, n);
            int m = items.majorOf(item);
            switch (tree.kindOf(n)) {
                case N_NUMBER: return isNumber(item) && compare(item, tok) == 0;
                case N_BYTES: return m == 2 && hasBytes(item, tok);
                case N_TEXT:
                case N_WORD: return m == 3 && hasBytes(item, tok);
                case N_RANGE: return isNumber(item) && inRange(n, item);
                case N_MAJOR: return m == longAt(tokens.high, tok);
                case N_SEVEN: return m == 7 && isSimple(item, tok);
                default: return tree.kindOf(n) == N_ANY;
            }
        }

        /** A tag that is any, or has the number that stands behind #6. */
        boolean isTag(int n, int item) {
            int tok = at(tree.token, n);
            boolean any = at(tokens.bodySize, tok) == 0;
            return items.majorOf(item) == 6 && (any || items.numberOf(item) == longAt(tokens.low, tok));
        }

        /** The item as lt le gt ge asks of it and the number behind. */
        boolean compares(int which, int right, int item) {
            if (!isNumber(item)) return false;
            int order = compare(item, at(tree.token, right));
            switch (which) {
                case C_LT: return order < 0;
                case C_LE: return order <= 0;
                case C_GT: return order > 0;
                default: return order >= 0;
            }
        }

        private boolean isNumber(int item) {
            return items.majorOf(item) == 0 || items.majorOf(item) == 1;
        }

        private boolean inRange(int n, int item) {
            int last = compare(item, at(tree.token, tree.secondOf(n)));
            if (compare(item, at(tree.token, tree.firstOf(n))) < 0) return false;
            return at(tree.third, n) == 1 ? last < 0 : last <= 0;
        }

        /** Below 0, 0 or above 0, as the item is less than, the same as or more than the token's number. */
        private int compare(int item, int tok) {
            int m = items.majorOf(item);
            long mine = items.numberOf(item);
            long other = longAt(tokens.low, tok);
            if (m != longAt(tokens.high, tok)) return m == 1 ? -1 : 1;
            if (mine == other) return 0;
            return below(mine, other) == (m == 0) ? -1 : 1;
        }

        private boolean hasBytes(int item, int tok) {
            int n = at(tokens.bodySize, tok);
            if (items.numberOf(item) != n) return false;
            for (int i = 0; i < n; i++) {
                if (items.byteOf(item, i) != tokens.bodyByte(tok, i)) return false;
            }
            return true;
        }

        private boolean isSimple(int item, int tok) {
            if (at(tokens.bodySize, tok) == 0) return true;
            long n = longAt(tokens.low, tok);
            int w = items.widthOf(item);
            if (n >= 24 && n <= 31) return n == 25 && w == 2 || n == 26 && w == 4 || n == 27 && w == 8;
            return w < 2 && items.numberOf(item) == n;
        }
    }

    /**
     * Tells whether an item is as a type says. NAMES, ( ), / and CONTROLS of one item are gone through with rows of
     * what is still to do, so that only what is within the item goes deeper.
     */
    private static final class Judge {
        private static final int NO = 0;
        private static final int YES = 1;
        private static final int GO = 2;
        private static final int ELSE = 0;
        private static final int KEEP = 1;
        private static final int CHECK = 2;
        private static final int TO_DO_ROOM = 2048;
        private static final int MAX_CALLS = 220;
        private static final int MANY = 1000000;
        // Six pairs can be given in six steps: what can be reached in eight, can in any more.
        private static final int ENOUGH_TIMES = 8;
        private static final int GIVEN_SETS = 64;

        private Rules rules;
        private Tree tree;
        private Instances instances;
        private final Items items;
        private final Memo memo;
        private final Leaves leaves;
        private final int[] toDo;
        private final int[] toDoNode;
        private final int[] toDoIn;
        private final int[] toDoItem;
        private int top;
        private int goNode;
        private int goIn;
        private int goItem;
        private int group;
        private int groupIn;

        Judge(Rules r, Items all, Memo known) {
            rules = r;
            tree = r.tree;
            instances = r.instances;
            items = all;
            memo = known;
            leaves = new Leaves(r, all);
            toDo = new int[TO_DO_ROOM];
            toDoNode = new int[TO_DO_ROOM];
            toDoIn = new int[TO_DO_ROOM];
            toDoItem = new int[TO_DO_ROOM];
        }

        void obey(Rules r) {
            rules = r;
            tree = r.tree;
            instances = r.instances;
            leaves.obey(r);
        }

        boolean says(int rule, int item) {
            memo.rest();
            top = 0;
            return isAs(at(rules.chain, rule), 0, item, 0);
        }

        /** Whether an item is as one of the choices from a node on. */
        private boolean isAs(int n, int in, int item, int calls) {
            if (calls > MAX_CALLS) return false;
            int base = top;
            goTo(n, in, item);
            int answer = GO;
            for (int step = 0; step < MANY; step++) {
                if (answer == GO) answer = enter(goNode, goIn, goItem, calls);
                else if (top <= base) return answer == YES;
                else answer = leave(answer, calls);
            }
            top = base;
            return false;
        }

        private int goTo(int n, int in, int item) {
            goNode = n;
            goIn = in;
            goItem = item;
            return GO;
        }

        private void push(int what, int n, int in, int item) {
            put(toDo, top, what);
            put(toDoNode, top, n);
            put(toDoIn, top, in);
            put(toDoItem, top, item);
            top++;
        }

        private int enter(int n, int in, int item, int calls) {
            if (n < 0) return NO;
            if (tree.nextOf(n) >= 0) push(ELSE, tree.nextOf(n), in, item);
            switch (tree.kindOf(n)) {
                case N_NAME: return enterName(n, in, item);
                case N_AND_NAME:
                case N_NAMED_ENTRY:
                    findGroup(n, in);
                    return goTo(group, groupIn, item);
                case N_AND_GROUP:
                case N_PAREN:
                case N_CHOICE:
                case N_ENTRY:
                case N_GROUP_ENTRY: return goTo(tree.firstOf(n), in, item);
                case N_UNWRAP:
                    instances.unwrap(rules, n, in);
                    return goTo(tree.firstOf(instances.box), instances.boxIn, item);
                case N_TAG: return leaves.isTag(n, item) ? goTo(tree.firstOf(n), in, item + 1) : NO;
                case N_CONTROL:
                    push(CHECK, n, in, item);
                    return goTo(tree.firstOf(n), in, item);
                case N_ARRAY: return isArray(tree.firstOf(n), in, item, calls) ? YES : NO;
                case N_MAP: return isMap(tree.firstOf(n), in, item, calls) ? YES : NO;
                default: return leaves.isSo(n, item) ? YES : NO;
            }
        }

        private int enterName(int n, int in, int item) {
            int to = tree.secondOf(n);
            int node = NONE;
            int nodeIn = 0;
            if (to >= TO_PARAM) {
                node = tree.firstOf(instances.argumentOf(in, to - TO_PARAM));
                nodeIn = instances.argumentPlace(in, to - TO_PARAM);
            } else if (rules.isRule(to)) {
                node = at(rules.chain, to);
                nodeIn = instances.lead(n, in);
            }
            if (node < 0) return NO;
            int known = memo.find(memo.key(Memo.TYPE, node, nodeIn, item, 0));
            if (known >= 0) return memo.answer(known) == 1 ? YES : NO;
            push(KEEP, node, nodeIn, item);
            return goTo(node, nodeIn, item);
        }

        /** Takes the last of what is to do, now that the answer of what was asked before is there. */
        private int leave(int answer, int calls) {
            top--;
            int n = at(toDoNode, top);
            int in = at(toDoIn, top);
            int item = at(toDoItem, top);
            switch (at(toDo, top)) {
                case ELSE: return answer == YES ? YES : goTo(n, in, item);
                case KEEP:
                    memo.keep(memo.key(Memo.TYPE, n, in, item, 0), answer);
                    return answer;
                default: return answer == YES ? check(n, in, item, calls) : NO;
            }
        }

        /** What a CONTROL asks of an item that is as the type before it. */
        private int check(int n, int in, int item, int calls) {
            int which = at(tree.third, n);
            int right = tree.secondOf(n);
            switch (which) {
                case C_DEFAULT: return YES;
                case C_AND: return goTo(right, in, item);
                case C_SIZE: return hasSize(right, in, item, calls) ? YES : NO;
                case C_BITS: return hasBits(right, in, item, calls) ? YES : NO;
                case C_CBOR:
                case C_CBORSEQ: return holds(n, in, item, calls) ? YES : NO;
                case C_EQ: return leaves.isSo(right, item) ? YES : NO;
                case C_NE: return leaves.isSo(right, item) ? NO : YES;
                default: return leaves.compares(which, right, item) ? YES : NO;
            }
        }

        private boolean hasSize(int type, int in, int item, int calls) {
            int m = items.majorOf(item);
            long n = items.numberOf(item);
            if (m == 2 || m == 3) return isAs(type, in, Items.FREE_NUMBERS + (int) n, calls + 1);
            if (m != 0) return false;
            for (int size = 0; size <= 8; size++) {
                boolean small = size == 8 || n >>> 8 * size == 0;
                if (small && isAs(type, in, Items.FREE_NUMBERS + size, calls + 1)) return true;
            }
            return false;
        }

        private boolean hasBits(int type, int in, int item, int calls) {
            int m = items.majorOf(item);
            long n = items.numberOf(item);
            if (m != 0 && m != 2) return false;
            int bits = m == 0 ? 64 : 8 * (int) n;
            for (int bit = 0; bit < bits; bit++) {
                long from = m == 0 ? n >>> bit : items.byteOf(item, bit >> 3) >> (bit & 7);
                if ((from & 1) == 1 && !isAs(type, in, Items.FREE_NUMBERS + bit, calls + 1)) return false;
            }
            return true;
        }

        /** Whether bytes hold an item, or items, as cbor or cborseq asks. */
        private boolean holds(int n, int in, int item, int calls) {
            if (items.majorOf(item) != 2) return false;
            long key = memo.key(Memo.PART, n, in, item, 0);
            int known = memo.find(key);
            if (known >= 0) return memo.answer(known) == 1;
            boolean one = at(tree.third, n) == C_CBOR;
            int held = items.readWithin(item, one);
            boolean yes = false;
            if (held >= 0) {
                memo.renew(items.levelOf(held));
                yes = isAs(tree.secondOf(n), in, held, calls + 1);
            }
            memo.keep(key, yes ? 1 : 0);
            return yes;
        }

        /** Sets group and groupIn: the choices that an entry or & NAME means, and the instance in which they are read. */
        private void findGroup(int n, int in) {
            int k = tree.kindOf(n);
            group = tree.firstOf(n);
            groupIn = in;
            if (k == N_GROUP_ENTRY || k == N_ENTRY) return;
            int name = k == N_AND_NAME ? n : group;
            if (tree.kindOf(name) == N_UNWRAP) {
                instances.unwrap(rules, name, in);
                group = tree.firstOf(instances.box);
                groupIn = instances.boxIn;
                return;
            }
            group = at(rules.chain, tree.secondOf(name));
            groupIn = instances.lead(name, in);
        }

        private boolean isArray(int choices, int in, int item, int calls) {
            if (items.majorOf(item) != 4) return false;
            return taken(choices, in, item, item + 1, calls + 1) == items.afterOf(item);
        }

        /** Before which item the group ends that is read from an item of an array on; NONE if it takes nothing so. */
        private int taken(int choices, int in, int list, int from, int calls) {
            if (calls > MAX_CALLS || choices < 0) return NONE;
            long key = memo.key(Memo.TAKEN, choices, in, list, from);
            int known = memo.find(key);
            if (known >= 0) return (int) memo.answer(known);
            int end = NONE;
            int c = choices;
            for (int i = 0; i < MAX_TOKENS && c >= 0 && end < 0; i++) {
                end = from;
                int e = tree.firstOf(c);
                for (int j = 0; j < MAX_TOKENS && e >= 0 && end >= 0; j++) {
                    int least = rules.least(e);
                    int most = rules.most(e);
                    boolean one = tree.kindOf(e) == N_ENTRY;
                    findGroup(e, in);
                    int within = group;
                    int withinIn = groupIn;
                    int times = 0;
                    boolean more = least <= most;
                    for (int k = 0; k <= MAX_LIST && more && times < most; k++) {
                        int next = one ? takenItem(e, in, list, end, calls) : taken(within, withinIn, list, end, calls + 1);
                        if (next == end) times = Math.max(times, least);
                        else if (next > end) times++;
                        more = next > end;
                        end = Math.max(end, next);
                    }
                    if (least > most || times < least) end = NONE;
                    e = tree.nextOf(e);
                }
                c = tree.nextOf(c);
            }
            memo.keep(key, end);
            return end;
        }

        private int takenItem(int entry, int in, int list, int from, int calls) {
            if (from >= items.afterOf(list)) return NONE;
            return isAs(tree.firstOf(entry), in, from, calls + 1) ? items.afterOf(from) : NONE;
        }

        private boolean isMap(int choices, int in, int item, int calls) {
            if (items.majorOf(item) != 5 || items.numberOf(item) > MAX_PAIRS) return false;
            int all = (1 << (int) items.numberOf(item)) - 1;
            return (ways(choices, in, item, 0, calls + 1) >>> all & 1) == 1;
        }

        /**
         * Which sets of pairs can have been given behind a group, when those of one set are before it: a bit for each.
         * That what a CUT has seized is given to none behind it needs no more than this: as all pairs must be given,
         * those must have been given when their CUT's entry is gone through.
         */
        private long ways(int choices, int in, int map, int given, int calls) {
            if (calls > MAX_CALLS || choices < 0) return 0;
            long key = memo.key(Memo.WAYS, choices, in, map, given);
            int known = memo.find(key);
            if (known >= 0) return memo.answer(known);
            long all = 0;
            int c = choices;
            for (int i = 0; i < MAX_TOKENS && c >= 0; i++) {
                long sets = 1L << given;
                int e = tree.firstOf(c);
                for (int j = 0; j < MAX_TOKENS && e >= 0 && sets != 0; j++) {
                    int least = rules.least(e);
                    int most = rules.most(e);
                    boolean one = tree.kindOf(e) == N_ENTRY;
                    findGroup(e, in);
                    int within = group;
                    int withinIn = groupIn;
                    if (least > most) sets = 0;
                    else if (one) sets = giveTo(e, in, map, sets, calls);
                    else {
                        long step = sets;
                        sets = least == 0 ? sets : 0;
                        for (int k = 1; k <= Math.min(most, ENOUGH_TIMES) && step != 0; k++) {
                            long next = 0;
                            for (int s = 0; s < GIVEN_SETS; s++) {
                                if ((step >>> s & 1) == 1) next |= ways(within, withinIn, map, s, calls + 1);
                            }
                            step = next;
                            if (k >= Math.min(least, ENOUGH_TIMES)) sets |= step;
                        }
                    }
                    e = tree.nextOf(e);
                }
                all |= sets;
                c = tree.nextOf(c);
            }
            memo.keep(key, all);
            return all;
        }

        /** Goes through an entry of one type with each set of pairs that can have been given before it. */
        private long giveTo(int entry, int in, int map, long sets, int calls) {
            int least = rules.least(entry);
            if (tree.secondOf(entry) < 0) return least == 0 ? sets : 0;
            int fits = fitting(entry, in, map, calls);
            int keyed = fits & GIVEN_SETS - 1;
            int valued = fits / GIVEN_SETS;
            boolean cut = at(tree.mark, entry) == 1;
            long all = 0;
            for (int s = 0; s < GIVEN_SETS; s++) {
                if ((sets >>> s & 1) == 0) continue;
                int more = cut ? keyed & ~s : valued & ~s;
                if (cut && (more & ~valued) != 0) continue;
                // Every part of what is free may be given; behind a CUT all of it must be.
                int part = more;
                for (int i = 0; i < GIVEN_SETS; i++) {
                    int times = Integer.bitCount(part);
                    if (times >= least && times <= rules.most(entry)) all |= 1L << (s | part);
                    if (cut || part == 0) break;
                    part = part - 1 & more;
                }
            }
            return all;
        }

        /** The pairs whose key is as the entry's key, and 64 times those whose value is as its type, too. */
        private int fitting(int entry, int in, int map, int calls) {
            long memoKey = memo.key(Memo.PART, entry, in, map, 0);
            int known = memo.find(memoKey);
            if (known >= 0) return (int) memo.answer(known);
            int fits = 0;
            int key = map + 1;
            for (int i = 0; i < MAX_PAIRS && key < items.afterOf(map); i++) {
                int value = items.afterOf(key);
                if (isAs(tree.secondOf(entry), in, key, calls + 1)) {
                    fits |= 1 << i;
                    if (isAs(tree.firstOf(entry), in, value, calls + 1)) fits |= GIVEN_SETS << i;
                }
                key = items.afterOf(value);
            }
            memo.keep(memoKey, fits);
            return fits;
        }
    }

    /** Puts items into OUT: as a text, or in their shortest form. */
    private static final class Writer {
        private static final int MAX_DIGITS = 20;

        private final Items items;
        private final byte[] out;
        private int outSize;
        private final byte[] draft;
        private final byte[] sorted;
        private int size;
        private final int[] from;
        private final int[] to;
        private final int[] order;
        private final int[] digits;

        Writer(Items all) {
            items = all;
            out = new byte[OUT_ROOM];
            outSize = 0;
            draft = new byte[OUT_ROOM];
            sorted = new byte[OUT_ROOM];
            from = new int[MAX_ITEMS];
            to = new int[MAX_ITEMS];
            order = new int[MAX_LIST];
            digits = new int[MAX_DIGITS];
        }

        int kept(int i) {
            return i < outSize ? byteAt(out, i) : NONE;
        }

        int tell(int item) {
            size = 0;
            addItem(item, 0);
            return keepDraft();
        }

        int pack(int item) {
            size = 0;
            packItem(item, 0);
            return keepDraft();
        }

        private int keepDraft() {
            if (size > OUT_ROOM) return NONE;
            copy(draft, 0, out, 0, size);
            outSize = size;
            return size;
        }

        /** What is behind the room is only counted. */
        private void add(int c) {
            if (size >= 0 && size < draft.length) draft[size] = (byte) c;
            size++;
        }

        private void addWord(String word) {
            for (int i = 0; i < word.length(); i++) add(word.charAt(i));
        }

        private void addHex(long value, int digits) {
            for (int i = digits - 1; i >= 0; i--) {
                int d = (int) (value >>> 4 * i) & 15;
                add(d < 10 ? '0' + d : 'a' + d - 10);
            }
        }

        /** A number from 0 to 2^64 - 1, whose digits come from its end. */
        private void addNumber(long number) {
            long n = number;
            int last = 0;
            for (; last < MAX_DIGITS && (last == 0 || n != 0); last++) {
                put(digits, last, (int) (n - 10 * tenth(n)));
                n = tenth(n);
            }
            for (int i = last - 1; i >= 0; i--) add('0' + at(digits, i));
        }

        private static long tenth(long n) {
            return (n >>> 1) / 5;
        }

        private void addItem(int i, int deep) {
            if (deep > MAX_DEPTH) return;
            long n = items.numberOf(i);
            switch (items.majorOf(i)) {
                case 0:
                    addNumber(n);
                    break;
                case 1:
                    addNegative(n);
                    break;
                case 2:
                case 3:
                    addString(i);
                    break;
                case 4:
                    addList(i, '[', ']', deep);
                    break;
                case 5:
                    addList(i, '{', '}', deep);
                    break;
                case 6:
                    addNumber(n);
                    add('(');
                    addItem(i + 1, deep + 1);
                    add(')');
                    break;
                default: addSeven(n, items.widthOf(i));
            }
        }

        /** -1 less n, which for the greatest n is -2^64. */
        private void addNegative(long n) {
            add('-');
            if (n == -1) addWord("18446744073709551616");
            else addNumber(n + 1);
        }

        private void addSeven(long n, int width) {
            if (width > 1) {
                addWord(width == 2 ? "float16(0x" : width == 4 ? "float32(0x" : "float64(0x");
                addHex(n, 2 * width);
                add(')');
            } else if (n == 20) addWord("false");
            else if (n == 21) addWord("true");
            else if (n == 22) addWord("null");
            else if (n == 23) addWord("undefined");
            else {
                addWord("simple(");
                addNumber(n);
                add(')');
            }
        }

        private void addList(int i, int open, int close, int deep) {
            add(open);
            if (items.widthOf(i) == 31) addWord("_ ");
            int child = i + 1;
            for (int k = 0; k < 2 * MAX_LIST && child < items.afterOf(i); k++) {
                boolean value = open == '{' && (k & 1) == 1;
                if (k > 0) addWord(value ? ": " : ", ");
                addItem(child, deep + 1);
                child = items.afterOf(child);
            }
            add(close);
        }

        private void addString(int i) {
            int m = items.majorOf(i);
            int p = items.startOf(i);
            if (items.widthOf(i) != 31) {
                addBytes(m, items.partStart(p), items.partSize(p));
                return;
            }
            addWord("(_ ");
            int last = items.behindOf(i) - 1;
            p++;
            for (int k = 0; k <= TAPE_ROOM && p < last; k++) {
                if (k > 0) addWord(", ");
                addBytes(m, items.partStart(p), items.partSize(p));
                p = items.partStart(p) + (int) items.partSize(p);
            }
            add(')');
        }

        private void addBytes(int major, int p, long n) {
            addWord(major == 2 ? "h'" : "\"");
            for (int k = 0; k < n; k++) {
                int c = items.dataAt(p + k);
                if (major == 2) addHex(c, 2);
                else addSign(c);
            }
            add(major == 2 ? '\'' : '"');
        }

        private void addSign(int c) {
            if (c < 32 || c > 126) {
                addWord("\\x");
                addHex(c, 2);
                return;
            }
            if (c == '"' || c == '\\') add('\\');
            add(c);
        }

        private void packItem(int i, int deep) {
            if (deep > MAX_DEPTH) return;
            int m = items.majorOf(i);
            long n = items.numberOf(i);
            put(from, i, size);
            if (m == 7 && items.widthOf(i) > 1) packFloat(n, items.widthOf(i));
            else packHead(m, n);
            if (m == 2 || m == 3) {
                for (int k = 0; k < n; k++) add(items.byteOf(i, k));
            }
            if (m >= 4 && m <= 6) {
                int child = i + 1;
                for (int k = 0; k < 2 * MAX_LIST && child < items.afterOf(i); k++) {
                    packItem(child, deep + 1);
                    child = items.afterOf(child);
                }
            }
            if (m == 5) sortPairs(i);
            put(to, i, size);
        }

        private void packFloat(long bits, int width) {
            add(width == 2 ? 0xf9 : width == 4 ? 0xfa : 0xfb);
            packNumber(bits, width);
        }

        private void packHead(int m, long n) {
            int width = 8;
            if (n >>> 32 == 0) width = 4;
            if (n >>> 16 == 0) width = 2;
            if (n >>> 8 == 0) width = 1;
            if (!below(n, 24)) add(m << 5 | (width == 8 ? 27 : width == 4 ? 26 : width == 2 ? 25 : 24));
            else {
                add(m << 5 | (int) n);
                width = 0;
            }
            packNumber(n, width);
        }

        private void packNumber(long n, int width) {
            for (int i = width - 1; i >= 0; i--) add((int) (n >>> 8 * i) & 255);
        }

        /** Puts the pairs of a map, which are in the draft, by their keys' bytes; the same keys stay as they stand. */
        private void sortPairs(int map) {
            int n = 0;
            int key = map + 1;
            for (; n < MAX_LIST && key < items.afterOf(map); n++) {
                int spot = n;
                for (; spot > 0 && isBefore(key, at(order, spot - 1)); spot--) put(order, spot, at(order, spot - 1));
                put(order, spot, key);
                key = items.afterOf(items.afterOf(key));
            }
            int begin = at(from, map + 1);
            int end = 0;
            for (int k = 0; k < n; k++) {
                int first = at(order, k);
                int bytes = at(to, items.afterOf(first)) - at(from, first);
                copy(draft, at(from, first), sorted, end, bytes);
                end += bytes;
            }
            if (n > 0) copy(sorted, 0, draft, begin, end);
        }

        private boolean isBefore(int key, int other) {
            int n = at(to, key) - at(from, key);
            int m = at(to, other) - at(from, other);
            for (int k = 0; k < n && k < m; k++) {
                int c = byteAt(draft, at(from, key) + k);
                int d = byteAt(draft, at(from, other) + k);
                if (c != d) return c < d;
            }
            return n < m;
        }
    }
}
