/**
 * Rules for data, and data in a published short form: rules are read from a text, data from bytes, and it is
 * told whether data are as a rule says; also their text, and their one shortest form.
 */
public final class ItemJudge {
    public static final int NONE = -1;

    private static final int TAPE_ROOM = 3000;
    private static final int OUT_ROOM = 4000;
    private static final int FED = 20;
    private static final int MAX_TOKENS = 300;
    private static final int MAX_OPEN = 16;
    private static final int MAX_NAME = 32;
    private static final int MAX_RULES = 24;
    private static final int MAX_PARAMS = 8;
    private static final int MAX_INSTANCES = 64;
    private static final int MAX_ENTRIES = 100;
    private static final int MAX_PATH = 16;
    private static final int MAX_OCCUR = 1000;
    private static final int MAX_ITEMS = 200;
    private static final int MAX_DEPTH = 10;
    private static final int MAX_LIST = 100;
    private static final int MAX_PAIRS = 6;
    private static final int MAX_NESTED = 3;
    private static final int ENDLESS = 1000000;

    // The text of the prelude comes first, then that of the tape, then the bytes that TEXTS and BYTES stand for.
    private static final int OWN_TEXT = 1200;
    private static final int OWN_BODIES = OWN_TEXT + TAPE_ROOM;
    private static final int TEXT_ROOM = OWN_BODIES + TAPE_ROOM;
    // The prelude has so many tokens, nodes and rules, or some less; the text's own come behind them.
    private static final int PRELUDE_TOKENS = 210;
    private static final int PRELUDE_NODES = 170;
    private static final int PRELUDE_RULES = 42;
    // Own tokens end with one more, the end. No token brings more than two nodes, but a [ or { that is an entry three: the
    // third is that of its end, if it has one. A rule takes at least NAME = and a token, a NAME with < > these three.
    private static final int TOKEN_ROOM = PRELUDE_TOKENS + MAX_TOKENS + 1;
    private static final int NODE_ROOM = PRELUDE_NODES + 2 * MAX_TOKENS + MAX_OPEN;
    private static final int RULE_ROOM = PRELUDE_RULES + MAX_TOKENS / 3;
    private static final int CALL_ROOM = MAX_TOKENS / 3;

    private static final int T_END = 0;
    private static final int T_BAD = 1;
    private static final int T_NAME = 2;
    private static final int T_NUMBER = 3;
    private static final int T_FLOAT = 4;
    private static final int T_OCCUR = 5;
    private static final int T_TEXT = 6;
    private static final int T_BYTES = 7;
    private static final int T_CONTROL = 8;
    private static final int T_HASH = 9;
    private static final int T_ARROW = 10;
    private static final int T_MORE_TYPES = 11;
    private static final int T_MORE_ENTRIES = 12;
    private static final int T_OR_ENTRIES = 13;
    private static final int T_UP_TO = 14;
    private static final int T_BELOW = 15;

    private static final int N_NUMBER = 1;
    private static final int N_TEXT = 2;
    private static final int N_BYTES = 3;
    private static final int N_WORD = 4;
    private static final int N_NAME = 5;
    private static final int N_UNWRAP = 6;
    private static final int N_AND_NAME = 7;
    private static final int N_AND_GROUP = 8;
    private static final int N_PAREN = 9;
    private static final int N_MAP = 10;
    private static final int N_ARRAY = 11;
    private static final int N_TAG = 12;
    private static final int N_MAJOR = 13;
    private static final int N_SEVEN = 14;
    private static final int N_ANY = 15;
    private static final int N_RANGE = 16;
    private static final int N_CONTROL = 17;
    private static final int N_ARGUMENT = 18;
    private static final int N_CHOICE = 19;
    private static final int N_ENTRY = 20;
    private static final int N_GROUP_ENTRY = 21;
    private static final int N_NAMED_ENTRY = 22;

    private static final int C_UNKNOWN = 0;
    private static final int C_SIZE = 1;
    private static final int C_BITS = 2;
    private static final int C_CBOR = 3;
    private static final int C_CBORSEQ = 4;
    private static final int C_AND = 5;
    private static final int C_LT = 6;
    private static final int C_LE = 7;
    private static final int C_GT = 8;
    private static final int C_GE = 9;
    private static final int C_EQ = 10;
    private static final int C_NE = 11;
    private static final int C_DEFAULT = 12;

    // What a NAME leads to, beside the rules from 0 on: nothing, a TYPE or a GROUP that is never so, a parameter.
    private static final int TO_NOTHING = -2;
    private static final int TO_NO_TYPE = -3;
    private static final int TO_NO_GROUP = -4;
    private static final int TO_PARAM = 1000;

    private static final String PRELUDE_1 = "any = # uint = #0 nint = #1 int = uint / nint bstr = #2 bytes = #2 tstr = #3 text = #3 tdate = #6.0(tstr) time = #6.1(number) number = int / float ";
    private static final String PRELUDE_2 = "biguint = #6.2(bstr) bignint = #6.3(bstr) bigint = biguint / bignint integer = int / bigint unsigned = uint / biguint decfrac = #6.4([e10: int, m: integer]) ";
    private static final String PRELUDE_3 = "bigfloat = #6.5([e2: int, m: integer]) eb64url = #6.21(any) eb64legacy = #6.22(any) eb16 = #6.23(any) encoded-cbor = #6.24(bstr) uri = #6.32(tstr) ";
    private static final String PRELUDE_4 = "b64url = #6.33(tstr) b64legacy = #6.34(tstr) regexp = #6.35(tstr) mime-message = #6.36(tstr) cbor-any = #6.55799(any) float16 = #7.25 float32 = #7.26 ";
    private static final String PRELUDE_5 = "float64 = #7.27 float16-32 = float16 / float32 float32-64 = float32 / float64 float = float16-32 / float64 ";
    private static final String PRELUDE_6 = "false = #7.20 true = #7.21 bool = false / true nil = #7.22 null = #7.22 undefined = #7.23 ";

    private final byte[] tape;
    private int taped;
    private int faultPlace;
    private Rules rules;
    private Rules spare;
    private final Parser parser;
    private final Checker checker;
    private final Limits limits;
    private final Items items;
    private final Memo memo;
    private final Judge referee;
    private final Writer writer;

    public ItemJudge() {
        tape = new byte[TAPE_ROOM];
        taped = 0;
        faultPlace = NONE;
        rules = new Rules();
        spare = new Rules();
        parser = new Parser(rules);
        checker = new Checker(rules);
        limits = new Limits(rules);
        items = new Items();
        memo = new Memo();
        referee = new Judge(rules, items, memo);
        writer = new Writer(items);
        rules.tokens.cutPrelude();
        spare.tokens.cutPrelude();
        parser.readRules(rules);
        checker.bind(rules);
        rules.keepPrelude();
        parser.readRules(spare);
        checker.bind(spare);
        spare.keepPrelude();
    }

    public int feed(int a, int b, int c, int d, int e) {
        if (taped + FED > TAPE_ROOM) return NONE;
        feedNumber(a);
        feedNumber(b);
        feedNumber(c);
        feedNumber(d);
        feedNumber(e);
        return taped;
    }

    public int end(int n) {
        if (n < 0 || n > FED || taped < FED) return NONE;
        taped = taped - FED + n;
        return taped;
    }

    public int grammar() {
        Rules next = spare;
        next.begin();
        next.tokens.cutOwn(tape, taped, next.ownToken);
        taped = 0;
        if (!parser.readRules(next)) return faulty(1, parser.failedToken());
        int fault = checker.firstFault(next);
        if (fault != 0) return faulty(fault, checker.blamedToken());
        int loop = limits.firstLoop(next);
        if (loop >= 0) return faulty(9, loop);
        boolean tooMuch = !next.instances.fill(next) || limits.groupsTooLarge() || limits.pathsTooLong();
        if (tooMuch) return faulty(10, next.tokens.lastToken());
        limits.weigh();
        spare = rules;
        rules = next;
        faultPlace = NONE;
        referee.obey(rules);
        memo.renew();
        return rules.ownRules();
    }

    public int place() {
        return faultPlace;
    }

    public int rule(int k, int i) {
        int r = rules.numbered(k);
        if (r < 0) return NONE;
        if (i >= 0) return rules.nameByte(r, i);
        if (i == -1) return rules.nameSize(r);
        if (i == -2) return rules.paramsOf(r);
        if (i == -3) return at(rules.grouped, r);
        if (i == -4) return rules.choices(r);
        return NONE;
    }

    public int item() {
        int n = taped;
        taped = 0;
        memo.renew();
        return items.take(tape, n) ? items.size() : -2 - items.faultPlace();
    }

    public long node(int k, int what) {
        return items.told(k, what);
    }

    public int judge(int k, int n) {
        int r = rules.numbered(k);
        if (r < 0 || !items.isTop(n) || at(rules.grouped, r) == 1 || rules.paramsOf(r) > 0) return NONE;
        return referee.says(r, n) ? 1 : 0;
    }

    public int write(int n) {
        return items.isTop(n) ? writer.tell(n) : NONE;
    }

    public int shorten(int n) {
        return items.isTop(n) ? writer.pack(n) : NONE;
    }

    public int out(int i) {
        return writer.kept(i);
    }

    private void feedNumber(int number) {
        for (int shift = 24; shift >= 0; shift -= 8) {
            putByte(tape, taped, number >> shift);
            taped++;
        }
    }

    /** The answer to a text with this FAULT at this token. */
    private int faulty(int fault, int token) {
        faultPlace = spare.tokens.placeOf(token);
        return -fault;
    }

    private static int at(int[] row, int i) {
        return i >= 0 && i < row.length ? row[i] : NONE;
    }

    private static void put(int[] row, int i, int value) {
        if (i >= 0 && i < row.length) row[i] = value;
    }

    private static long longAt(long[] row, int i) {
        return i >= 0 && i < row.length ? row[i] : 0;
    }

    private static void putLong(long[] row, int i, long value) {
        if (i >= 0 && i < row.length) row[i] = value;
    }

    private static int byteAt(byte[] row, int i) {
        return i >= 0 && i < row.length ? row[i] & 255 : NONE;
    }

    private static void putByte(byte[] row, int i, int value) {
        if (i >= 0 && i < row.length) row[i] = (byte) value;
    }

    /** Copies n bytes, if both rows have them there. */
    private static void copy(byte[] from, int i, byte[] to, int j, int n) {
        if (n > 0 && i >= 0 && j >= 0 && n <= from.length - i && n <= to.length - j) System.arraycopy(from, i, to, j, n);
    }

    /** Whether a is below b, both from 0 to 2^64 - 1. */
    private static boolean below(long a, long b) {
        return (a ^ (1L << 63)) < (b ^ (1L << 63));
    }

    /** The tokens of a text of rules. */
    private static final class Tokens {
        final byte[] text;
        final int[] kind;
        final int[] start;
        final int[] bodyStart;
        final int[] bodySize;
        final long[] low;
        final long[] high;
        int count;
        private int stop;
        private int open;
        private int bodies;
        private int newKind;
        private int newStart;
        private int newSize;
        private long newLow;
        private long newHigh;
        private long number;

        Tokens() {
            text = new byte[TEXT_ROOM];
            kind = new int[TOKEN_ROOM];
            start = new int[TOKEN_ROOM];
            bodyStart = new int[TOKEN_ROOM];
            bodySize = new int[TOKEN_ROOM];
            low = new long[TOKEN_ROOM];
            high = new long[TOKEN_ROOM];
        }

        void cutPrelude() {
            int p = load(PRELUDE_1, 0);
            p = load(PRELUDE_2, p);
            p = load(PRELUDE_3, p);
            p = load(PRELUDE_4, p);
            p = load(PRELUDE_5, p);
            p = load(PRELUDE_6, p);
            count = 0;
            cut(0, p);
        }

        void cutOwn(byte[] from, int n, int firstToken) {
            copy(from, 0, text, OWN_TEXT, n);
            count = firstToken;
            bodies = OWN_BODIES;
            cut(OWN_TEXT, OWN_TEXT + n);
        }

        int kindOf(int i) {
            return i >= 0 && i < count && i < kind.length ? kind[i] : T_END;
        }

        int placeOf(int i) {
            return at(start, i) - OWN_TEXT;
        }

        int lastToken() {
            return count - 1;
        }

        int bodyByte(int i, int j) {
            return j >= 0 && j < at(bodySize, i) ? byteAt(text, at(bodyStart, i) + j) : NONE;
        }

        boolean sameBody(int i, int j) {
            int n = at(bodySize, i);
            if (n != at(bodySize, j)) return false;
            int p = at(bodyStart, i);
            int q = at(bodyStart, j);
            for (int k = 0; k < n; k++) {
                if (byteAt(text, p + k) != byteAt(text, q + k)) return false;
            }
            return true;
        }

        boolean isWord(int i, String word) {
            int n = at(bodySize, i);
            if (n != word.length()) return false;
            int p = at(bodyStart, i);
            for (int k = 0; k < n && k < word.length(); k++) {
                if (byteAt(text, p + k) != word.charAt(k)) return false;
            }
            return true;
        }

        private int load(String words, int p) {
            int n = words.length();
            for (int i = 0; i < n; i++) putByte(text, p + i, words.charAt(i));
            return p + n;
        }

        /** The row of tokens always ends with one that can stand nowhere: the text's end, or what is no token. */
        private void cut(int from, int to) {
            stop = to;
            open = 0;
            int p = from;
            for (int i = 0; i <= MAX_TOKENS; i++) {
                p = behindBlanks(p);
                if (p >= stop) {
                    add(T_END, stop);
                    return;
                }
                int q = i < MAX_TOKENS ? one(p) : NONE;
                if (q <= p || opensTooMuch()) {
                    add(T_BAD, p);
                    return;
                }
                add(newKind, p);
                p = q;
            }
        }

        private void add(int k, int p) {
            if (count >= TOKEN_ROOM) return;
            put(kind, count, k);
            put(start, count, p);
            put(bodyStart, count, newStart);
            put(bodySize, count, newSize);
            putLong(low, count, newLow);
            putLong(high, count, newHigh);
            count++;
        }

        private boolean opensTooMuch() {
            int k = newKind;
            if (k == '(' || k == '{' || k == '[' || k == '<') open++;
            if (k == ')' || k == '}' || k == ']' || k == '>') open--;
            return open > MAX_OPEN;
        }

        private int look(int p) {
            return p >= 0 && p < stop && p < text.length ? text[p] & 255 : NONE;
        }

        private int behindBlanks(int p) {
            boolean remark = false;
            for (int q = p; q < stop; q++) {
                int c = look(q);
                if (c == ';') remark = true;
                else if (c == 10) remark = false;
                else if (!remark && c != 13 && c != 32) return q;
            }
            return stop;
        }

        /** Where the token that begins at p ends, what it is standing in the new fields; NONE. */
        private int one(int p) {
            int c = look(p);
            newStart = p;
            newSize = 0;
            newLow = 0;
            newHigh = 0;
            if (c == 'h' && look(p + 1) == '\'') return hexBytes(p + 2);
            if (startsName(c)) return named(p, T_NAME);
            if (isDigit(c) && look(behindUint(p)) == '*') return occur(behindUint(p), number);
            if (isDigit(c)) return numberAt(p, false);
            if (c == '-') return numberAt(p + 1, true);
            if (c == '"') return quoted(p + 1, c, T_TEXT);
            if (c == '\'') return quoted(p + 1, c, T_BYTES);
            if (c == '#') return hash(p + 1);
            if (c == '*') return occur(p, 0);
            if (c == '+') return anOccur(p, 1, ENDLESS);
            if (c == '?') return anOccur(p, 0, 1);
            if (c == '.') return dots(p);
            if (c == '/') return slashes(p);
            if (c == '=') return sign(look(p + 1) == '>' ? T_ARROW : c, look(p + 1) == '>' ? p + 2 : p + 1);
            boolean single = c == '(' || c == ')' || c == '{' || c == '}' || c == '[' || c == ']' || c == '<' || c == '>'
                || c == ',' || c == ':' || c == '^' || c == '~' || c == '&';
            return single ? sign(c, p + 1) : NONE;
        }

        private int sign(int k, int q) {
            newKind = k;
            return q;
        }

        private int dots(int p) {
            if (look(p + 1) != '.') return startsName(look(p + 1)) ? named(p + 1, T_CONTROL) : NONE;
            return look(p + 2) == '.' ? sign(T_BELOW, p + 3) : sign(T_UP_TO, p + 2);
        }

        private int slashes(int p) {
            if (look(p + 1) == '=') return sign(T_MORE_TYPES, p + 2);
            if (look(p + 1) != '/') return sign('/', p + 1);
            return look(p + 2) == '=' ? sign(T_MORE_ENTRIES, p + 3) : sign(T_OR_ENTRIES, p + 2);
        }

        private int named(int p, int k) {
            int q = p;
            for (; q < stop; q++) {
                if (!goesOnName(look(q))) break;
            }
            for (; q > p; q--) {
                int last = look(q - 1);
                if (last != '-' && last != '.') break;
            }
            if (q - p > MAX_NAME) return NONE;
            newStart = p;
            newSize = q - p;
            return sign(k, q);
        }

        private int numberAt(int p, boolean less) {
            int f = behindFloat(p);
            if (f >= 0) return sign(T_FLOAT, f);
            int q = behindUint(p);
            if (q < 0) return NONE;
            // A number below 0 is kept as the major 1 that it would be: -1 less what is kept.
            boolean negative = less && number != 0;
            newHigh = negative ? 1 : 0;
            newLow = negative ? number - 1 : number;
            return sign(T_NUMBER, q);
        }

        private int occur(int star, long from) {
            newLow = below(MAX_OCCUR, from) ? MAX_OCCUR : from;
            int q = behindUint(star + 1);
            if (q < 0) return anOccur(star, newLow, ENDLESS);
            newHigh = below(MAX_OCCUR, number) ? MAX_OCCUR : number;
            return sign(T_OCCUR, q);
        }

        private int anOccur(int p, long from, long to) {
            newLow = from;
            newHigh = to;
            return sign(T_OCCUR, p + 1);
        }

        private int hash(int p) {
            boolean digit = isDigit(look(p));
            newHigh = digit ? look(p) - '0' : NONE;
            int q = digit ? p + 1 : p;
            int u = digit && look(q) == '.' ? behindUint(q + 1) : NONE;
            if (u < 0) return sign(T_HASH, q);
            newSize = 1;
            newLow = number;
            return sign(T_HASH, u);
        }

        /** Where the UINT at p ends, its value standing in number; NONE. */
        private int behindUint(int p) {
            int q;
            if (look(p) != '0') q = behindDigits(p, 10);
            else if (look(p + 1) == 'x') q = behindDigits(p + 2, 16);
            else if (look(p + 1) == 'b') q = behindDigits(p + 2, 2);
            else q = behindZero(p);
            return q >= 0 && !sticks(look(q)) ? q : NONE;
        }

        private int behindZero(int p) {
            number = 0;
            return p + 1;
        }

        private int behindDigits(int p, int base) {
            long value = 0;
            int q = p;
            for (; q < stop; q++) {
                int d = digit(look(q));
                if (d < 0 || d >= base) break;
                if (value < 0 || value > mostBefore(base, d)) return NONE;
                value = value * base + d;
            }
            number = value;
            return q > p ? q : NONE;
        }

        /** The greatest value that stays below 2^64 when this digit is put behind it. */
        private static long mostBefore(int base, int d) {
            if (base == 16) return (1L << 60) - 1;
            if (base == 2) return (1L << 62) - 1 + (1L << 62);
            return d <= 5 ? 1844674407370955161L : 1844674407370955160L;
        }

        private int behindFloat(int p) {
            int q = look(p) == '0' ? p + 1 : behindDigits(p, 10);
            if (q < 0) return NONE;
            boolean more = false;
            if (look(q) == '.' && isDigit(look(q + 1))) {
                more = true;
                q = behindPlain(q + 1);
            }
            if (look(q) == 'e' || look(q) == 'E') {
                int r = look(q + 1) == '+' || look(q + 1) == '-' ? q + 2 : q + 1;
                if (isDigit(look(r))) {
                    more = true;
                    q = behindPlain(r);
                }
            }
            return more && !sticks(look(q)) ? q : NONE;
        }

        private int behindPlain(int p) {
            int q = p;
            for (; q < stop; q++) {
                if (!isDigit(look(q))) break;
            }
            return q;
        }

        private int quoted(int p, int quote, int k) {
            int from = bodies;
            for (int q = p; q < stop; q++) {
                int c = look(q);
                if (c == quote) return closed(from, k, q + 1);
                if (c < 32 || c > 126) break;
                if (c == '\\') {
                    q++;
                    c = look(q) == quote ? quote : escaped(look(q));
                    if (c < 0) break;
                }
                addBody(c);
            }
            bodies = from;
            return NONE;
        }

        private int hexBytes(int p) {
            int from = bodies;
            int half = NONE;
            for (int q = p; q < stop; q++) {
                int c = look(q);
                int d = digit(c);
                if (c == '\'') {
                    if (half < 0) return closed(from, T_BYTES, q + 1);
                    break;
                }
                if (c == 10 || c == 13 || c == 32) continue;
                if (d < 0) break;
                if (half >= 0) addBody(half * 16 + d);
                half = half < 0 ? d : NONE;
            }
            bodies = from;
            return NONE;
        }

        private int closed(int from, int k, int q) {
            newStart = from;
            newSize = bodies - from;
            return sign(k, q);
        }

        private void addBody(int c) {
            putByte(text, bodies, c);
            bodies++;
        }

        private static int escaped(int c) {
            switch (c) {
                case '\\': return '\\';
                case '/': return '/';
                case 'b': return 8;
                case 'f': return 12;
                case 'n': return 10;
                case 'r': return 13;
                case 't': return 9;
                default: return NONE;
            }
        }

        private static boolean isDigit(int c) {
            return c >= '0' && c <= '9';
        }

        private static int digit(int c) {
            if (c >= '0' && c <= '9') return c - '0';
            if (c >= 'a' && c <= 'f') return c - 'a' + 10;
            if (c >= 'A' && c <= 'F') return c - 'A' + 10;
            return NONE;
        }

        /** What no number may be right before. */
        private static boolean sticks(int c) {
            return startsName(c) && c != '@' && c != '$' || isDigit(c);
        }

        private static boolean startsName(int c) {
            return c >= 'a' && c <= 'z' || c >= 'A' && c <= 'Z' || c == '@' || c == '_' || c == '$';
        }

        private static boolean goesOnName(int c) {
            return startsName(c) || isDigit(c) || c == '-' || c == '.';
        }
    }

    /**
     * The nodes that are read from tokens. Choices of a type, choices of a group, entries and arguments are chains by next.
     * NAME: first argument, what it leads to, its call; ARGUMENT: its type, and from where to where its nodes stand;
     * RANGE, CONTROL: left, right, which; ENTRY: its type or choices, its key, whose entry it is. The weight of a [ ],
     * { } or entry is how many entries are in it, those of GROUPS put in, an entry itself counting; the place of an
     * entry is how many of these come before it in its group. Tied is what a parameter is in, so that it is read otherwise
     * in another instance: 2 if such a node is behind it in its chain, 3 if it is one.
     */
    private static final class Tree {
        final int[] kind;
        final int[] token;
        final int[] next;
        final int[] first;
        final int[] second;
        final int[] third;
        final int[] mark;
        final int[] guard;
        final int[] deep;
        final int[] statement;
        final int[] weight;
        final int[] place;
        final int[] tied;
        int count;

        Tree() {
            kind = new int[NODE_ROOM];
            token = new int[NODE_ROOM];
            next = new int[NODE_ROOM];
            first = new int[NODE_ROOM];
            second = new int[NODE_ROOM];
            third = new int[NODE_ROOM];
            mark = new int[NODE_ROOM];
            guard = new int[NODE_ROOM];
            deep = new int[NODE_ROOM];
            statement = new int[NODE_ROOM];
            weight = new int[NODE_ROOM];
            place = new int[NODE_ROOM];
            tied = new int[NODE_ROOM];
        }

        int add(int k, int tok) {
            int n = count;
            if (n < 0 || n >= NODE_ROOM) return NONE;
            count++;
            kind[n] = k;
            token[n] = tok;
            next[n] = NONE;
            first[n] = NONE;
            second[n] = NONE;
            third[n] = NONE;
            mark[n] = 0;
            return n;
        }

        int kindOf(int n) {
            return n >= 0 && n < kind.length ? kind[n] : NONE;
        }

        int nextOf(int n) {
            return n >= 0 && n < next.length ? next[n] : NONE;
        }

        int firstOf(int n) {
            return n >= 0 && n < first.length ? first[n] : NONE;
        }

        int secondOf(int n) {
            return n >= 0 && n < second.length ? second[n] : NONE;
        }

        /** The instance in which a node and those behind it in its chain are read: one for all, if it makes no difference. */
        int chainIn(int n, int in) {
            return at(tied, n) > 0 ? in : 0;
        }

        int aloneIn(int n, int in) {
            return at(tied, n) == 3 ? in : 0;
        }

        boolean isName(int n) {
            int k = n >= 0 && n < kind.length ? kind[n] : NONE;
            return k == N_NAME || k == N_UNWRAP || k == N_AND_NAME;
        }

        boolean isEntry(int n) {
            int k = at(kind, n);
            return k == N_ENTRY || k == N_GROUP_ENTRY || k == N_NAMED_ENTRY;
        }

        /** The token of a NAME: behind ~ and & it is the next one. */
        int nameToken(int n) {
            return at(kind, n) == N_NAME ? at(token, n) : at(token, n) + 1;
        }

        void append(int chain, int more) {
            int last = chain;
            for (int i = 0; i < NODE_ROOM && nextOf(last) >= 0; i++) last = nextOf(last);
            put(next, last, more);
        }

        int length(int chain) {
            int n = 0;
            for (int c = chain; c >= 0 && n < NODE_ROOM; c = nextOf(c)) n++;
            return n;
        }
    }

    /** One set of RULES. Statements and rules are numbered with those of the prelude in front, which stay. */
    private static final class Rules {
        final Tokens tokens;
        final Tree tree;
        final Instances instances;
        final int[] head;
        final int[] sign;
        final int[] params;
        final int[] choice;
        final int[] typed;
        final int[] owner;
        final int[] opening;
        final int[] told;
        final int[] grouped;
        final int[] chain;
        final int[] only;
        int statements;
        int count;
        int ownToken;
        int ownNode;
        int ownStatement;
        int ownRule;

        Rules() {
            tokens = new Tokens();
            tree = new Tree();
            instances = new Instances(tree);
            head = new int[RULE_ROOM];
            sign = new int[RULE_ROOM];
            params = new int[RULE_ROOM];
            choice = new int[RULE_ROOM];
            typed = new int[RULE_ROOM];
            owner = new int[RULE_ROOM];
            opening = new int[RULE_ROOM];
            told = new int[RULE_ROOM];
            grouped = new int[RULE_ROOM];
            chain = new int[RULE_ROOM];
            only = new int[RULE_ROOM];
        }

        void keepPrelude() {
            ownToken = tokens.count;
            ownNode = tree.count;
            ownStatement = statements;
            ownRule = count;
        }

        void begin() {
            tree.count = ownNode;
            statements = ownStatement;
            count = ownRule;
        }

        int addStatement(int headToken, int howMany, int by) {
            if (statements >= RULE_ROOM) return NONE;
            int s = statements;
            statements++;
            put(head, s, headToken);
            put(params, s, howMany);
            put(sign, s, by);
            put(owner, s, NONE);
            return s;
        }

        int addRule(int s) {
            if (count >= RULE_ROOM) return NONE;
            int r = count;
            count++;
            put(opening, r, s);
            put(told, r, 0);
            put(grouped, r, 0);
            put(chain, r, NONE);
            return r;
        }

        int ownRules() {
            return count - ownRule;
        }

        /** The rule that bears this number outside; NONE. */
        int numbered(int k) {
            return k >= 0 && k < count - ownRule ? ownRule + k : NONE;
        }

        /** The nodes of a statement stand in a row: from its choice up to the next statement's. */
        int firstNode(int s) {
            return at(choice, s);
        }

        int endNode(int s) {
            return s + 1 < statements ? at(choice, s + 1) : tree.count;
        }

        int headOf(int r) {
            return at(head, at(opening, r));
        }

        int nameByte(int r, int i) {
            return tokens.bodyByte(headOf(r), i);
        }

        int nameSize(int r) {
            return at(tokens.bodySize, headOf(r));
        }

        int paramsOf(int to) {
            return isRule(to) ? at(params, at(opening, to)) : 0;
        }

        boolean isRule(int to) {
            return to >= 0 && to < count;
        }

        boolean isOwn(int to) {
            return to >= ownRule && to < count;
        }

        boolean isGroup(int to) {
            return to == TO_NO_GROUP || isRule(to) && at(grouped, to) == 1;
        }

        int ruleOfNode(int n) {
            return at(owner, at(tree.statement, n));
        }

        /** The token of parameter i: NAME < p0 , p1 .. */
        int paramToken(int s, int i) {
            return at(head, s) + 2 + 2 * i;
        }

        /** Which of the rules from .. to - 1 has the NAME of this token; NONE. */
        int ruleNamed(int tok, int from, int to) {
            for (int r = from; r < to; r++) {
                if (tokens.sameBody(tok, headOf(r))) return r;
            }
            return NONE;
        }

        private int paramNamed(int tok, int s) {
            int n = at(params, s);
            for (int i = 0; i < n; i++) {
                if (tokens.sameBody(tok, paramToken(s, i))) return i;
            }
            return NONE;
        }

        /** What the NAME of this token leads to in this statement. */
        int target(int tok, int s) {
            int p = paramNamed(tok, s);
            if (p >= 0) return TO_PARAM + p;
            int r = ruleNamed(tok, ownRule, count);
            if (r < 0) r = ruleNamed(tok, 0, ownRule);
            if (r >= 0) return r;
            if (tokens.bodyByte(tok, 0) != '$') return TO_NOTHING;
            return tokens.bodyByte(tok, 1) == '$' ? TO_NO_GROUP : TO_NO_TYPE;
        }

        /** The node that a type is, without the ( ) around it; NONE if it has more choices than one. */
        int single(int type) {
            int n = type;
            for (int i = 0; i <= MAX_OPEN; i++) {
                if (n < 0 || tree.nextOf(n) >= 0) return NONE;
                if (tree.kindOf(n) != N_PAREN) return n;
                n = tree.firstOf(n);
            }
            return NONE;
        }

        /** The #6 ( ), [ ] or { } that a rule of one choice is, NAMES followed; NONE. */
        int box(int to) {
            int r = to;
            for (int i = 0; i < RULE_ROOM; i++) {
                if (!isRule(r) || isGroup(r)) return NONE;
                int n = single(at(chain, r));
                int k = tree.kindOf(n);
                if (k == N_TAG || k == N_ARRAY || k == N_MAP) return n;
                if (k != N_NAME) return NONE;
                r = tree.secondOf(n);
            }
            return NONE;
        }

        int choices(int r) {
            if (at(grouped, r) == 0) return tree.length(at(chain, r));
            int n = 0;
            for (int s = ownStatement; s < statements; s++) {
                if (at(owner, s) == r) n += choicesTold(tree.firstOf(at(choice, s)));
            }
            return n;
        }

        private int choicesTold(int entry) {
            boolean bare = tree.kindOf(entry) == N_GROUP_ENTRY && at(tree.token, entry) < 0;
            return bare ? tree.length(tree.firstOf(entry)) : 1;
        }

        int least(int entry) {
            int occur = at(tree.token, entry);
            return occur < 0 ? 1 : (int) longAt(tokens.low, occur);
        }

        int most(int entry) {
            int occur = at(tree.token, entry);
            return occur < 0 ? 1 : (int) longAt(tokens.high, occur);
        }
    }

    /** Reads tokens into nodes. A reader answers NONE when a token could not stand where it is. */
    private static final class Parser {
        private Rules rules;
        private Tokens tokens;
        private Tree tree;
        private int p;
        private int failed;
        private int statement;
        private int guard;
        private int deep;
        private int whose;
        private int scanned;
        private final boolean[] onlyGroup;

        Parser(Rules r) {
            rules = r;
            tokens = r.tokens;
            tree = r.tree;
            onlyGroup = new boolean[TOKEN_ROOM];
        }

        int failedToken() {
            return failed;
        }

        boolean readRules(Rules r) {
            rules = r;
            tokens = r.tokens;
            tree = r.tree;
            p = r.ownToken;
            failed = p;
            for (int i = 0; i < onlyGroup.length; i++) onlyGroup[i] = false;
            for (int i = 0; i < MAX_TOKENS && peek() != T_END; i++) {
                if (!readStatement()) return false;
            }
            return peek() == T_END;
        }

        private int peek() {
            return tokens.kindOf(p);
        }

        private int fail() {
            failed = p;
            return NONE;
        }

        private boolean take(int k) {
            if (tokens.kindOf(p) != k) {
                failed = p;
                return false;
            }
            p++;
            return true;
        }

        private int grow(int k, int tok) {
            int n = tree.add(k, tok);
            put(tree.guard, n, guard);
            put(tree.deep, n, deep);
            put(tree.statement, n, statement);
            return n;
        }

        private boolean readStatement() {
            int head = p;
            if (!take(T_NAME)) return false;
            p = behindParams(p);
            if (!beginsBody(peek()) || scanned < 0) return fail() >= 0;
            int by = peek();
            p++;
            statement = rules.addStatement(head, scanned, by);
            guard = NONE;
            deep = 0;
            whose = NONE;
            int choice = grow(N_CHOICE, head);
            put(rules.choice, statement, choice);
            boolean typed = by != T_MORE_ENTRIES && readTypeBody(choice, by == '=');
            put(rules.typed, statement, typed ? 1 : 0);
            if (typed) return true;
            if (by == T_MORE_TYPES) return false;
            int entry = readEntry();
            put(tree.first, choice, entry);
            return entry >= 0;
        }

        private static boolean beginsBody(int k) {
            return k == '=' || k == T_MORE_TYPES || k == T_MORE_ENTRIES;
        }

        /** The token behind < NAME , NAME >, if it stands at q, how many being scanned; or the first one that can't stand. */
        private int behindParams(int q) {
            scanned = 0;
            if (tokens.kindOf(q) != '<') return q;
            int n = 0;
            for (int i = q; i < TOKEN_ROOM; i += 2) {
                scanned = NONE;
                if (tokens.kindOf(i + 1) != T_NAME) return i + 1;
                n++;
                int k = tokens.kindOf(i + 2);
                if (k == '>') {
                    scanned = n;
                    return i + 3;
                }
                if (k != ',') return i + 2;
            }
            return q;
        }

        private boolean atStatementEnd() {
            if (peek() == T_END) return true;
            if (peek() != T_NAME) return false;
            int q = behindParams(p + 1);
            return scanned >= 0 && beginsBody(tokens.kindOf(q));
        }

        /** A type told by a rule, as the one entry of a choice; where it must end and doesn't, nothing is read. */
        private boolean readTypeBody(int choice, boolean mustEnd) {
            int from = p;
            int nodes = tree.count;
            int entry = grow(N_ENTRY, NONE);
            int type = readType();
            if (type >= 0 && (!mustEnd || atStatementEnd())) {
                put(tree.first, entry, type);
                put(tree.third, entry, NONE);
                put(tree.first, choice, entry);
                return true;
            }
            if (mustEnd) goBack(from, nodes, NONE, 0, NONE);
            return false;
        }

        private void goBack(int token, int nodes, int guardThere, int deepThere, int whoseThere) {
            p = token;
            tree.count = nodes;
            guard = guardThere;
            deep = deepThere;
            whose = whoseThere;
        }

        private int readType() {
            return readChoices(readType1());
        }

        private int readChoices(int first) {
            int last = first;
            for (int i = 0; i < MAX_TOKENS && last >= 0 && peek() == '/'; i++) {
                p++;
                int more = readType1();
                put(tree.next, last, more);
                last = more;
            }
            return last < 0 ? NONE : first;
        }

        private int readType1() {
            int left = readType2();
            if (left < 0) return NONE;
            int k = peek();
            if (k == T_UP_TO || k == T_BELOW) {
                int n = grow(N_RANGE, p);
                p++;
                return joined(n, left, readType2(), k == T_BELOW ? 1 : 0);
            }
            if (k != T_CONTROL) return left;
            int n = grow(N_CONTROL, p);
            int which = controlNamed(p);
            p++;
            if (which != C_CBOR && which != C_CBORSEQ) return joined(n, left, readType2(), which);
            int outer = guard;
            int outerDeep = deep;
            guard = n;
            deep = 0;
            int right = readType2();
            guard = outer;
            deep = outerDeep;
            return joined(n, left, right, which);
        }

        private int joined(int n, int left, int right, int which) {
            put(tree.first, n, left);
            put(tree.second, n, right);
            put(tree.third, n, which);
            return right < 0 ? NONE : n;
        }

        private int controlNamed(int tok) {
            if (tokens.isWord(tok, "size")) return C_SIZE;
            if (tokens.isWord(tok, "bits")) return C_BITS;
            if (tokens.isWord(tok, "cbor")) return C_CBOR;
            if (tokens.isWord(tok, "cborseq")) return C_CBORSEQ;
            if (tokens.isWord(tok, "within") || tokens.isWord(tok, "and")) return C_AND;
            if (tokens.isWord(tok, "lt")) return C_LT;
            if (tokens.isWord(tok, "le")) return C_LE;
            if (tokens.isWord(tok, "gt")) return C_GT;
            if (tokens.isWord(tok, "ge")) return C_GE;
            if (tokens.isWord(tok, "eq")) return C_EQ;
            if (tokens.isWord(tok, "ne")) return C_NE;
            return tokens.isWord(tok, "default") ? C_DEFAULT : C_UNKNOWN;
        }

        private int readType2() {
            int tok = p;
            switch (peek()) {
                case T_NUMBER:
                case T_FLOAT:
                    p++;
                    return grow(N_NUMBER, tok);
                case T_TEXT:
                    p++;
                    return grow(N_TEXT, tok);
                case T_BYTES:
                    p++;
                    return grow(N_BYTES, tok);
                case T_NAME: return readName(N_NAME, tok);
                case T_HASH: return readHash(tok, longAt(tokens.high, tok), at(tokens.bodySize, tok) > 0);
                case '{': return readBox(N_MAP, '}');
                case '[': return readBox(N_ARRAY, ']');
                case '(':
                    p++;
                    return readParen(grow(N_PAREN, tok));
                case '~':
                    p++;
                    return peek() == T_NAME ? readName(N_UNWRAP, tok) : fail();
                case '&':
                    p++;
                    if (peek() == T_NAME) return readName(N_AND_NAME, tok);
                    return peek() == '(' ? readAndGroup(grow(N_AND_GROUP, tok)) : fail();
                default: return fail();
            }
        }

        private int readParen(int n) {
            deep++;
            int type = readType();
            deep--;
            if (type < 0 || !take(')')) return NONE;
            put(tree.first, n, type);
            return n;
        }

        private int readBox(int k, int close) {
            int n = grow(k, p);
            int outer = guard;
            int outerDeep = deep;
            int outerWhose = whose;
            p++;
            guard = n;
            deep = 0;
            whose = n;
            int group = readGroup();
            guard = outer;
            deep = outerDeep;
            whose = outerWhose;
            if (group < 0 || !take(close)) return NONE;
            put(tree.first, n, group);
            return n;
        }

        private int readAndGroup(int n) {
            int outerWhose = whose;
            p++;
            deep++;
            whose = n;
            int group = readGroup();
            deep--;
            whose = outerWhose;
            if (group < 0 || !take(')')) return NONE;
            put(tree.first, n, group);
            return n;
        }

        private int readHash(int tok, long digit, boolean more) {
            if (digit > 7 || more && digit < 6) return fail();
            p++;
            if (digit < 0) return grow(N_ANY, tok);
            if (digit < 6) return grow(N_MAJOR, tok);
            if (digit == 7) return grow(N_SEVEN, tok);
            int n = grow(N_TAG, tok);
            if (!take('(')) return NONE;
            int outer = guard;
            int outerDeep = deep;
            guard = n;
            deep = 0;
            int type = readType();
            guard = outer;
            deep = outerDeep;
            if (type < 0 || !take(')')) return NONE;
            put(tree.first, n, type);
            return n;
        }

        private int readName(int k, int tok) {
            int n = grow(k, tok);
            p++;
            if (peek() != '<') return n;
            deep++;
            int last = NONE;
            for (int i = 0; i < MAX_TOKENS; i++) {
                p++;
                int more = readArgument();
                if (more < 0) return NONE;
                if (last < 0) put(tree.first, n, more);
                else put(tree.next, last, more);
                last = more;
                if (peek() != ',') break;
            }
            deep--;
            return take('>') ? n : NONE;
        }

        private int readArgument() {
            int n = grow(N_ARGUMENT, p);
            int type = readType1();
            if (type < 0) return NONE;
            put(tree.first, n, type);
            put(tree.second, n, n + 1);
            put(tree.third, n, tree.count);
            return n;
        }

        private int readGroup() {
            int first = NONE;
            int last = NONE;
            for (int i = 0; i < MAX_TOKENS; i++) {
                int choice = grow(N_CHOICE, p);
                if (!readEntries(choice)) return NONE;
                if (first < 0) first = choice;
                else put(tree.next, last, choice);
                last = choice;
                if (peek() != T_OR_ENTRIES) return first;
                p++;
            }
            return fail();
        }

        private boolean readEntries(int choice) {
            int last = NONE;
            for (int i = 0; i < MAX_TOKENS && beginsEntry(peek()); i++) {
                int entry = readEntry();
                if (entry < 0) return false;
                if (last < 0) put(tree.first, choice, entry);
                else put(tree.next, last, entry);
                last = entry;
                if (peek() == ',') p++;
            }
            return true;
        }

        private static boolean beginsEntry(int k) {
            return k == T_OCCUR || k == T_NAME || k == T_NUMBER || k == T_FLOAT || k == T_TEXT || k == T_BYTES || k == T_HASH
                || k == '(' || k == '{' || k == '[' || k == '~' || k == '&';
        }

        private int readEntry() {
            int entry = grow(N_ENTRY, peek() == T_OCCUR ? p : NONE);
            put(tree.third, entry, whose);
            if (peek() == T_OCCUR) p++;
            if (peek() != '(') return readTyped(entry) ? entry : NONE;
            int from = p;
            int nodes = tree.count;
            int outer = guard;
            int outerDeep = deep;
            int outerWhose = whose;
            if (!isOnlyGroup(from) && readTyped(entry)) return entry;
            goBack(from, nodes, outer, outerDeep, outerWhose);
            noteOnlyGroup(from);
            put(tree.kind, entry, N_GROUP_ENTRY);
            put(tree.second, entry, NONE);
            put(tree.mark, entry, 0);
            p++;
            deep++;
            int group = readGroup();
            deep--;
            if (group < 0 || !take(')')) return NONE;
            put(tree.first, entry, group);
            return entry;
        }

        /** Whether the ( of this token has been found to begin no type: what is around may be read again as a group. */
        private boolean isOnlyGroup(int tok) {
            return tok >= 0 && tok < onlyGroup.length && onlyGroup[tok];
        }

        private void noteOnlyGroup(int tok) {
            if (tok >= 0 && tok < onlyGroup.length) onlyGroup[tok] = true;
        }

        /** [ key ] type. The mark of an entry tells that its key is a CUT. */
        private boolean readTyped(int entry) {
            int key = readShortKey();
            boolean cut = key >= 0;
            if (!cut) {
                int type = readType1();
                if (type < 0) return false;
                cut = peek() == '^';
                if (cut) p++;
                if (cut && peek() != T_ARROW) return fail() >= 0;
                if (peek() != T_ARROW) {
                    put(tree.first, entry, type);
                    return readChoices(type) >= 0;
                }
                p++;
                key = type;
            }
            put(tree.second, entry, key);
            put(tree.mark, entry, cut ? 1 : 0);
            int type = readType();
            put(tree.first, entry, type);
            return type >= 0;
        }

        /** A key with : behind it; NONE, and nothing is read, if there is none. */
        private int readShortKey() {
            if (tokens.kindOf(p + 1) != ':') return NONE;
            int k = NONE;
            if (peek() == T_NAME) k = N_WORD;
            if (peek() == T_NUMBER || peek() == T_FLOAT) k = N_NUMBER;
            if (peek() == T_TEXT) k = N_TEXT;
            if (peek() == T_BYTES) k = N_BYTES;
            if (k < 0) return NONE;
            int n = grow(k, p);
            p += 2;
            return n;
        }
    }

    /** Binds NAMES to rules and finds the FAULTS 2 to 8. */
    private static final class Checker {
        private Rules rules;
        private Tokens tokens;
        private Tree tree;
        private int blamed;
        private int fault;

        Checker(Rules r) {
            rules = r;
            tokens = r.tokens;
            tree = r.tree;
        }

        int blamedToken() {
            return blamed;
        }

        int firstFault(Rules r) {
            bind(r);
            checkFloats();
            for (int n = rules.ownNode; n < tree.count; n++) checkNode(n);
            if (fault == 0) {
                nameEntries();
                keepBoxes();
            }
            return fault;
        }

        void bind(Rules r) {
            rules = r;
            tokens = r.tokens;
            tree = r.tree;
            blamed = NONE;
            fault = 0;
            for (int s = rules.ownStatement; s < rules.statements; s++) collect(s);
            for (int n = rules.ownNode; n < tree.count; n++) bindNode(n);
            for (int k = rules.ownRule; k < rules.count; k++) put(rules.grouped, k, tellsGroup(at(rules.opening, k)) ? 1 : 0);
            for (int s = rules.ownStatement; s < rules.statements; s++) link(s);
        }

        /** Tokens stand in the order of the text, so the least token is the first place. */
        private void blame(int tok, int number) {
            boolean sooner = fault == 0 || tok < blamed || tok == blamed && number < fault;
            if (!sooner) return;
            blamed = tok;
            fault = number;
        }

        private void collect(int s) {
            int tok = at(rules.head, s);
            int r = rules.ruleNamed(tok, rules.ownRule, rules.count);
            boolean known = r >= 0;
            if (rules.ruleNamed(tok, 0, rules.ownRule) >= 0) blame(tok, 2);
            if (!known) {
                r = rules.addRule(s);
                if (rules.ownRules() == MAX_RULES + 1) blame(tok, 3);
            }
            put(rules.owner, s, r);
            if (at(rules.sign, s) == '=') {
                if (at(rules.told, r) == 1) blame(tok, 2);
                put(rules.told, r, 1);
            }
            if (known && !sameParams(s, at(rules.opening, r))) blame(tok, 2);
            checkParams(s);
        }

        private boolean sameParams(int s, int other) {
            int n = at(rules.params, s);
            if (n != at(rules.params, other)) return false;
            for (int i = 0; i < n; i++) {
                if (!tokens.sameBody(rules.paramToken(s, i), rules.paramToken(other, i))) return false;
            }
            return true;
        }

        private void checkParams(int s) {
            int n = at(rules.params, s);
            for (int i = 0; i < n; i++) {
                int tok = rules.paramToken(s, i);
                if (i == MAX_PARAMS) blame(tok, 3);
                for (int j = 0; j < i; j++) {
                    if (tokens.sameBody(tok, rules.paramToken(s, j))) blame(tok, 2);
                }
            }
        }

        /** The mark of a NAME: 1 alone in an entry, 2 alone behind the = or /= of a rule. */
        private void bindNode(int n) {
            int s = at(tree.statement, n);
            if (tree.isName(n)) put(tree.second, n, rules.target(tree.nameToken(n), s));
            if (tree.kindOf(n) != N_ENTRY || tree.secondOf(n) >= 0) return;
            int only = rules.single(tree.firstOf(n));
            if (!tree.isName(only)) return;
            boolean whole = at(rules.typed, s) == 1 && tree.firstOf(at(rules.choice, s)) == n;
            put(tree.mark, only, whole ? 2 : 1);
        }

        /** Whether a statement tells a GROUP: an entry, or just a NAME of a GROUP. Asked before choices are linked. */
        private boolean tellsGroup(int statement) {
            int s = statement;
            for (int i = 0; i < RULE_ROOM; i++) {
                if (at(rules.typed, s) != 1) return true;
                int n = rules.single(tree.firstOf(tree.firstOf(at(rules.choice, s))));
                if (tree.kindOf(n) != N_NAME) return false;
                int to = tree.secondOf(n);
                if (to == TO_NO_GROUP) return true;
                if (!rules.isRule(to)) return false;
                s = at(rules.opening, to);
            }
            return false;
        }

        /** Puts what a statement tells behind what its rule has already. */
        private void link(int s) {
            int r = at(rules.owner, s);
            boolean group = at(rules.grouped, r) == 1;
            if (s != at(rules.opening, r) && tellsGroup(s) != group) blame(at(rules.head, s), 2);
            int choice = at(rules.choice, s);
            // What is told as a GROUP where it must be a TYPE is a choice more of it, too.
            int more = group || at(rules.typed, s) != 1 ? choice : tree.firstOf(tree.firstOf(choice));
            if (at(rules.chain, r) < 0) put(rules.chain, r, more);
            else tree.append(at(rules.chain, r), more);
        }

        private void checkFloats() {
            for (int i = rules.ownToken; i < tokens.count; i++) {
                if (tokens.kindOf(i) == T_FLOAT) blame(i, 7);
            }
        }

        private void checkNode(int n) {
            int k = tree.kindOf(n);
            if (tree.isName(n)) checkName(n, k);
            if (k == N_RANGE) {
                needNumber(tree.firstOf(n));
                needNumber(tree.secondOf(n));
            }
            if (k == N_CONTROL) checkControl(n, at(tree.third, n));
        }

        private void checkName(int n, int k) {
            int tok = tree.nameToken(n);
            int to = tree.secondOf(n);
            if (to == TO_NOTHING) blame(tok, 4);
            if (tree.length(tree.firstOf(n)) != rules.paramsOf(to)) blame(tok, 5);
            if (k == N_NAME && rules.isGroup(to) && at(tree.mark, n) == 0) blame(tok, 6);
            if (k == N_AND_NAME && !rules.isGroup(to)) blame(tok, 6);
            if (k == N_UNWRAP && !canUnwrap(rules.box(to), at(tree.mark, n))) blame(tok, 6);
        }

        private boolean canUnwrap(int box, int mark) {
            int k = tree.kindOf(box);
            return k == N_TAG || (k == N_ARRAY || k == N_MAP) && mark == 1;
        }

        private void needNumber(int n) {
            if (tree.kindOf(n) != N_NUMBER) blame(at(tree.token, n), 8);
        }

        private void checkControl(int n, int which) {
            if (which == C_UNKNOWN) blame(at(tree.token, n), 8);
            int right = tree.secondOf(n);
            int k = tree.kindOf(right);
            if (which >= C_LT && which <= C_GE) needNumber(right);
            if ((which == C_EQ || which == C_NE) && k != N_TEXT && k != N_BYTES) needNumber(right);
        }

        /** Entries that are just a NAME of a GROUP, or ~ NAME of an array or a map, become groups themselves. */
        private void nameEntries() {
            for (int n = rules.ownNode; n < tree.count; n++) {
                if (tree.kindOf(n) != N_ENTRY || tree.secondOf(n) >= 0) continue;
                int only = rules.single(tree.firstOf(n));
                int k = tree.kindOf(only);
                int to = tree.secondOf(only);
                boolean named = k == N_NAME && rules.isGroup(to);
                boolean unwrapped = k == N_UNWRAP && tree.kindOf(rules.box(to)) != N_TAG;
                if (!named && !unwrapped) continue;
                put(tree.kind, n, N_NAMED_ENTRY);
                put(tree.first, n, only);
            }
        }

        /** From here on the mark of ~ NAME is its box, and it is known which rules are one node. */
        private void keepBoxes() {
            for (int r = 0; r < rules.count; r++) put(rules.only, r, rules.single(at(rules.chain, r)));
            for (int n = rules.ownNode; n < tree.count; n++) {
                if (tree.kindOf(n) == N_UNWRAP) put(tree.mark, n, rules.box(tree.secondOf(n)));
            }
        }
    }

    /**
     * The INSTANCES of rules with parameters, numbered from 1 on; 0 stands for a rule without.
     * An ARGUMENT is an argument's node and the instance in which it is read.
     */
    private static final class Instances {
        static final int MAX_LED = MAX_RULES + MAX_INSTANCES + 1;
        static final int SPOTS = 2 * MAX_LED + (MAX_INSTANCES + 1) * MAX_PARAMS;

        private final Tree tree;
        private final int[] calls;
        private final int[] madeOf;
        private final int[] argument;
        private final int[] argumentIn;
        private final int[] newArgument;
        private final int[] newIn;
        int count;
        int box;
        int boxIn;
        int head;
        int headIn;
        int spot;

        Instances(Tree t) {
            tree = t;
            calls = new int[CALL_ROOM * (MAX_INSTANCES + 1)];
            madeOf = new int[MAX_INSTANCES + 1];
            argument = new int[(MAX_INSTANCES + 1) * MAX_PARAMS];
            argumentIn = new int[(MAX_INSTANCES + 1) * MAX_PARAMS];
            newArgument = new int[MAX_PARAMS];
            newIn = new int[MAX_PARAMS];
        }

        int ruleOf(int instance) {
            return at(madeOf, instance);
        }

        int argumentOf(int instance, int i) {
            return at(argument, instance * MAX_PARAMS + i);
        }

        int argumentPlace(int instance, int i) {
            return at(argumentIn, instance * MAX_PARAMS + i);
        }

        /** The instance that a NAME leads to, where it is read in this one. */
        int lead(int name, int in) {
            int call = name >= 0 && name < tree.third.length ? tree.third[name] : NONE;
            int i = call * (MAX_INSTANCES + 1) + in;
            return call >= 0 && i >= 0 && i < calls.length ? calls[i] : 0;
        }

        /** Sets box and boxIn: the #6 ( ), [ ] or { } that ~ NAME means, and the instance in which it is read. */
        void unwrap(Rules rules, int name, int in) {
            int n = name;
            boxIn = in;
            for (int i = 0; i < RULE_ROOM; i++) {
                boxIn = lead(n, boxIn);
                box = at(rules.only, tree.secondOf(n));
                if (tree.kindOf(box) != N_NAME) return;
                n = box;
            }
        }

        /**
         * Sets head, headIn and spot for a NAME, & NAME, ~ NAME or an entry that is one: the first choice to which it leads
         * (NONE: to nothing that is ever so), the instance in which that is read, and its number among all that NAMES can
         * lead to (NONE in the prelude).
         */
        void follow(Rules rules, int n, int in) {
            int name = tree.kindOf(n) == N_NAMED_ENTRY ? tree.firstOf(n) : n;
            int to = tree.secondOf(name);
            head = NONE;
            headIn = 0;
            spot = NONE;
            if (tree.kindOf(name) == N_UNWRAP) {
                unwrap(rules, name, in);
                head = tree.firstOf(box);
                headIn = boxIn;
                if (box >= rules.ownNode) spot = MAX_LED + ledTo(rules.ruleOfNode(box) - rules.ownRule);
            } else if (to >= TO_PARAM) {
                head = tree.firstOf(argumentOf(in, to - TO_PARAM));
                headIn = argumentPlace(in, to - TO_PARAM);
                spot = 2 * MAX_LED + in * MAX_PARAMS + to - TO_PARAM;
            } else if (rules.isRule(to)) {
                head = at(rules.chain, to);
                headIn = lead(name, in);
                if (rules.isOwn(to)) spot = ledTo(to - rules.ownRule);
            }
        }

        /** The number of a rule, or of the instance that is headIn. */
        private int ledTo(int ownRule) {
            return headIn > 0 ? MAX_RULES + headIn : ownRule;
        }

        /** Makes all instances; false if they are too many. */
        boolean fill(Rules rules) {
            numberCalls(rules);
            count = 0;
            for (int r = rules.ownRule; r < rules.count; r++) {
                if (rules.paramsOf(r) == 0 && !callAll(rules, r, 0)) return false;
            }
            for (int i = 1; i <= count && i <= MAX_INSTANCES; i++) {
                if (!callAll(rules, ruleOf(i), i)) return false;
            }
            return true;
        }

        private void numberCalls(Rules rules) {
            int n = 0;
            for (int i = rules.ownNode; i < tree.count; i++) {
                if (!tree.isName(i) || tree.firstOf(i) < 0) continue;
                put(tree.third, i, n);
                n++;
            }
            for (int i = 0; i < n * (MAX_INSTANCES + 1); i++) put(calls, i, 0);
        }

        private boolean callAll(Rules rules, int rule, int in) {
            for (int s = rules.ownStatement; s < rules.statements; s++) {
                boolean told = at(rules.owner, s) == rule;
                if (told && !callStatement(rules, s, in)) return false;
            }
            return true;
        }

        private boolean callStatement(Rules rules, int s, int in) {
            int end = rules.endNode(s);
            for (int n = rules.firstNode(s); n < end; n++) {
                if (!tree.isName(n) || tree.firstOf(n) < 0) continue;
                int instance = called(rules, n, in);
                if (instance < 0) return false;
                int row = at(tree.third, n) * (MAX_INSTANCES + 1);
                put(calls, row + in, instance);
                // In an ARGUMENT without parameters it is read in no instance, and leads to the same one.
                if (!hasParams(n)) put(calls, row, instance);
            }
            return true;
        }

        private int called(Rules rules, int name, int in) {
            int n = 0;
            for (int a = tree.firstOf(name); a >= 0 && n < MAX_PARAMS; a = tree.nextOf(a)) {
                bindArgument(rules, a, in, n);
                n++;
            }
            int rule = tree.secondOf(name);
            for (int i = 1; i <= count; i++) {
                if (ruleOf(i) == rule && sameArguments(i, n)) return i;
            }
            if (count >= MAX_INSTANCES) return NONE;
            count++;
            put(madeOf, count, rule);
            for (int i = 0; i < n; i++) {
                put(argument, count * MAX_PARAMS + i, at(newArgument, i));
                put(argumentIn, count * MAX_PARAMS + i, at(newIn, i));
            }
            return count;
        }

        private void bindArgument(Rules rules, int a, int in, int i) {
            int type = tree.firstOf(a);
            int param = tree.kindOf(type) == N_NAME ? tree.secondOf(type) - TO_PARAM : NONE;
            boolean passed = param >= 0;
            put(newArgument, i, passed ? argumentOf(in, param) : a);
            put(newIn, i, passed ? argumentPlace(in, param) : holdsParams(a) ? in : 0);
        }

        /** Whether there are parameters in the arguments of a NAME. */
        private boolean hasParams(int name) {
            int i = 0;
            for (int a = tree.firstOf(name); a >= 0 && i < MAX_PARAMS; a = tree.nextOf(a)) {
                if (holdsParams(a)) return true;
                i++;
            }
            return false;
        }

        private boolean holdsParams(int a) {
            for (int n = tree.secondOf(a); n < at(tree.third, a); n++) {
                if (tree.isName(n) && tree.secondOf(n) >= TO_PARAM) return true;
            }
            return false;
        }

        private boolean sameArguments(int instance, int n) {
            for (int i = 0; i < n; i++) {
                if (argumentOf(instance, i) != at(newArgument, i) || argumentPlace(instance, i) != at(newIn, i)) return false;
            }
            return true;
        }
    }

    /** Finds the FAULTS 9 and 10: what leads to itself, and what is too much. */
    private static final class Limits {
        private Rules rules;
        private Tree tree;
        private Instances instances;
        private final int[] seen;
        private final int[] queue;
        private int queued;
        private int round;
        private int used;
        private final int[] depths;
        private final int[] inside;
        private final int[] argumentDepths;
        private boolean changed;

        Limits(Rules r) {
            rules = r;
            tree = r.tree;
            instances = r.instances;
            seen = new int[RULE_ROOM + NODE_ROOM];
            queue = new int[RULE_ROOM + NODE_ROOM + 1];
            depths = new int[RULE_ROOM + MAX_INSTANCES + 1];
            inside = new int[RULE_ROOM + MAX_INSTANCES + 1];
            argumentDepths = new int[(MAX_INSTANCES + 1) * MAX_PARAMS];
        }

        /** The token of the first NAME that leads to itself; NONE. */
        int firstLoop(Rules r) {
            rules = r;
            tree = r.tree;
            instances = r.instances;
            used = RULE_ROOM + tree.count;
            for (int i = 0; i < used; i++) put(seen, i, 0);
            round = 0;
            int loop = NONE;
            for (int k = rules.ownRule; k < rules.count && loop < 0; k++) {
                reach(k, false);
                if (at(seen, k) == round) loop = rules.headOf(k);
            }
            for (int n = rules.ownNode; n < tree.count; n++) {
                if (tree.kindOf(n) != N_UNWRAP) continue;
                int tok = tree.nameToken(n);
                if ((loop < 0 || tok < loop) && meetsItself(n)) loop = tok;
            }
            return loop;
        }

        private boolean meetsItself(int n) {
            int box = ownBox(n);
            if (box < 0) return false;
            reach(RULE_ROOM + box, true);
            return at(seen, context(n)) == round;
        }

        /** The box of a ~ NAME, if it stands in the text and not in the prelude. */
        private int ownBox(int n) {
            int box = at(tree.mark, n);
            return box >= rules.ownNode ? box : NONE;
        }

        /** Where a node stands free: right in a rule, or in a box (then the box's number behind those of rules). */
        private int context(int n) {
            int guard = at(tree.guard, n);
            return guard < 0 ? rules.ruleOfNode(n) : RULE_ROOM + guard;
        }

        /** Marks all contexts that NAMES lead to from one; that one itself only if they lead back, or if it counts. */
        private void reach(int from, boolean counts) {
            round++;
            queued = 1;
            put(queue, 0, from);
            if (counts) put(seen, from, round);
            for (int i = 0; i < queued && i < queue.length; i++) leadOn(at(queue, i));
        }

        private void see(int context) {
            if (at(seen, context) == round) return;
            put(seen, context, round);
            put(queue, queued, context);
            queued++;
        }

        private void leadOn(int context) {
            int held = context < RULE_ROOM ? NONE : at(tree.statement, context - RULE_ROOM);
            for (int s = rules.ownStatement; s < rules.statements; s++) {
                if (held < 0 ? at(rules.owner, s) == context : s == held) leadOnIn(s, context);
            }
        }

        private void leadOnIn(int s, int context) {
            int guard = context < RULE_ROOM ? NONE : context - RULE_ROOM;
            int end = rules.endNode(s);
            for (int n = rules.firstNode(s); n < end; n++) {
                if (!tree.isName(n) || at(tree.guard, n) != guard) continue;
                if (rules.isOwn(tree.secondOf(n))) see(tree.secondOf(n));
                int box = tree.kindOf(n) == N_UNWRAP ? ownBox(n) : NONE;
                if (box >= 0) see(RULE_ROOM + box);
            }
        }

        /** Whether a group has too many entries. What GROUPS have is counted again until nothing changes. */
        boolean groupsTooLarge() {
            for (int i = 0; i < used; i++) put(seen, i, 0);
            for (int time = 0; time <= MAX_ENTRIES + 1; time++) {
                for (int i = 0; i < used; i++) put(queue, i, 0);
                for (int n = rules.ownNode; n < tree.count; n++) {
                    if (countEntry(n) > MAX_ENTRIES) return true;
                }
                changed = false;
                for (int i = 0; i < used; i++) {
                    if (at(seen, i) != at(queue, i)) changed = true;
                    put(seen, i, at(queue, i));
                }
                if (!changed) return false;
            }
            return true;
        }

        /** Adds an entry to what it stands in: a rule's GROUP, or a [ ], { }, & ( ). How many that has then. */
        private int countEntry(int n) {
            if (!tree.isEntry(n)) return 0;
            int whose = at(tree.third, n);
            int rule = rules.ruleOfNode(n);
            // The one entry that a rule of a TYPE is kept in is none.
            if (whose < 0 && at(rules.grouped, rule) == 0) return 0;
            int counter = whose < 0 ? rule : RULE_ROOM + whose;
            put(queue, counter, at(queue, counter) + 1 + countWithin(n));
            return at(queue, counter);
        }

        private int countWithin(int n) {
            if (tree.kindOf(n) != N_NAMED_ENTRY) return 0;
            int name = tree.firstOf(n);
            int to = tree.secondOf(name);
            if (tree.kindOf(name) == N_UNWRAP) return Math.max(0, at(seen, RULE_ROOM + at(tree.mark, name)));
            return rules.isOwn(to) ? at(seen, to) : 0;
        }

        /** Sets weights and places, once groups are known to be small: what is within a node comes behind it. */
        void weigh() {
            for (int n = tree.count - 1; n >= 0; n--) {
                int k = tree.kindOf(n);
                if (k == N_ARRAY || k == N_MAP) put(tree.weight, n, placeEntries(tree.firstOf(n)));
                if (k == N_GROUP_ENTRY) put(tree.weight, n, 1 + placeEntries(tree.firstOf(n)));
                if (k == N_ENTRY || k == N_NAMED_ENTRY) put(tree.weight, n, 1 + countWithin(n));
            }
            for (int r = rules.ownRule; r < rules.count; r++) {
                if (at(rules.grouped, r) == 1) placeEntries(at(rules.chain, r));
            }
            markTied();
        }

        /** Marks grow from round to round until nothing changes. */
        private void markTied() {
            for (int n = rules.ownNode; n < tree.count; n++) put(tree.tied, n, 0);
            changed = true;
            for (int time = 0; time < NODE_ROOM && changed; time++) {
                changed = false;
                for (int n = tree.count - 1; n >= rules.ownNode; n--) raise(tree.tied, n, tiesOf(n));
            }
        }

        private int tiesOf(int n) {
            int k = tree.kindOf(n);
            boolean two = k == N_CONTROL || k == N_ENTRY;
            boolean itself = tree.isName(n) && tree.secondOf(n) >= TO_PARAM || at(tree.tied, tree.firstOf(n)) > 0
                || two && at(tree.tied, tree.secondOf(n)) > 0;
            if (itself) return 3;
            return at(tree.tied, tree.nextOf(n)) > 0 ? 2 : 0;
        }

        private int placeEntries(int choices) {
            int places = 0;
            int c = choices;
            for (int i = 0; i < NODE_ROOM && c >= 0; i++) {
                int e = tree.firstOf(c);
                for (int j = 0; j < NODE_ROOM && e >= 0; j++) {
                    put(tree.place, e, places);
                    places += at(tree.weight, e);
                    e = tree.nextOf(e);
                }
                c = tree.nextOf(c);
            }
            return places;
        }

        /** Whether a PATH is too long. Depths grow from round to round until nothing changes. */
        boolean pathsTooLong() {
            for (int i = 0; i < depths.length; i++) {
                put(depths, i, 0);
                put(inside, i, 0);
            }
            for (int i = 0; i < argumentDepths.length; i++) put(argumentDepths, i, 0);
            for (int time = 0; time <= 4 * MAX_PATH; time++) {
                changed = false;
                // Most rules name later ones, and instances make later ones: the last ones first, less is to do again.
                for (int i = instances.count; i > 0; i--) {
                    measureArguments(i);
                    if (measure(instances.ruleOf(i), i) > MAX_PATH) return true;
                }
                for (int r = rules.count - 1; r >= rules.ownRule; r--) {
                    if (rules.paramsOf(r) == 0 && measure(r, 0) > MAX_PATH) return true;
                }
                if (!changed) return false;
            }
            return true;
        }

        private void raise(int[] row, int i, int value) {
            if (value <= at(row, i)) return;
            put(row, i, value);
            changed = true;
        }

        /** The longest PATH in a rule's text, as far as it is known; kept: that from the rule, and that from in its box. */
        private int measure(int rule, int instance) {
            int entity = instance > 0 ? RULE_ROOM + instance : rule;
            int box = rules.box(rule);
            int most = 0;
            for (int s = rules.ownStatement; s < rules.statements; s++) {
                if (at(rules.owner, s) != rule) continue;
                int end = rules.endNode(s);
                for (int n = rules.firstNode(s); n < end; n++) {
                    int length = pathTo(n, instance);
                    most = Math.max(most, length);
                    if (at(tree.guard, n) < 0) raise(depths, entity, length);
                    else if (at(tree.guard, n) == box) raise(inside, entity, length);
                }
            }
            return most;
        }

        private void measureArguments(int instance) {
            int n = rules.paramsOf(instances.ruleOf(instance));
            for (int i = 0; i < n && i < MAX_PARAMS; i++) {
                int a = instances.argumentOf(instance, i);
                int in = instances.argumentPlace(instance, i);
                for (int k = tree.secondOf(a); k < at(tree.third, a); k++) {
                    if (at(tree.guard, k) != at(tree.guard, a)) continue;
                    raise(argumentDepths, instance * MAX_PARAMS + i, pathTo(k, in) - at(tree.deep, a));
                }
            }
        }

        /** How long the PATH is, from where it began, that ends with this node or behind its NAME; 0 for a node that is in none. */
        private int pathTo(int n, int instance) {
            int k = tree.kindOf(n);
            boolean bracket = k == N_PAREN || k == N_MAP || k == N_ARRAY || k == N_TAG || k == N_AND_GROUP || k == N_GROUP_ENTRY;
            if (bracket) return at(tree.deep, n) + 1;
            if (!tree.isName(n)) return 0;
            int to = tree.secondOf(n);
            int behind = 0;
            if (to >= TO_PARAM) behind = at(argumentDepths, instance * MAX_PARAMS + to - TO_PARAM);
            else if (rules.isOwn(to)) behind = behindName(n, to, instance);
            return at(tree.deep, n) + 1 + behind;
        }

        private int behindName(int n, int to, int instance) {
            int led = instances.lead(n, instance);
            int behind = at(depths, led > 0 ? RULE_ROOM + led : to);
            if (tree.kindOf(n) != N_UNWRAP) return behind;
            instances.unwrap(rules, n, instance);
            if (instances.box < rules.ownNode) return behind;
            int held = instances.boxIn > 0 ? RULE_ROOM + instances.boxIn : rules.ruleOfNode(instances.box);
            return Math.max(behind, at(inside, held));
        }
    }

    /**
     * Items: from 0 on those of the ITEM, from NESTED on those that bytes hold, which are read when they are asked for
     * and then stay as long as the ITEM does. Every byte of the tape begins at most one of all these.
     */
    private static final class Items {
        static final int NESTED = 256;
        private static final int ROOM = NESTED + 2 * TAPE_ROOM + 1;
        private static final int TOLD_ROOM = NESTED + MAX_ITEMS + 1;
        // The ITEM's bytes come first, then what is joined of parts, then the bytes that may become an ITEM.
        private static final int JOINED = TAPE_ROOM;
        private static final int TRIAL = JOINED + (MAX_NESTED + 1) * TAPE_ROOM;

        private final byte[] data;
        private final int[] major;
        private final int[] width;
        private final int[] start;
        private final int[] behind;
        private final int[] parent;
        private final int[] after;
        private final int[] depth;
        private final int[] level;
        private final int[] content;
        private final int[] inside;
        private final long[] number;
        private int top;
        private int topJoined;
        private int count;
        private int limit;
        private int region;
        private int stop;
        private int joined;
        private int fault;

        Items() {
            data = new byte[TRIAL + TAPE_ROOM];
            major = new int[ROOM];
            width = new int[ROOM];
            start = new int[TOLD_ROOM];
            behind = new int[TOLD_ROOM];
            parent = new int[TOLD_ROOM];
            after = new int[ROOM];
            depth = new int[ROOM];
            level = new int[ROOM];
            content = new int[ROOM];
            inside = new int[ROOM];
            number = new long[ROOM];
            topJoined = JOINED;
        }

        boolean isTop(int i) {
            return i >= 0 && i < top;
        }

        int size() {
            return top;
        }

        int faultPlace() {
            return fault;
        }

        int majorOf(int i) {
            return at(major, i);
        }

        long numberOf(int i) {
            return longAt(number, i);
        }

        int widthOf(int i) {
            return at(width, i);
        }

        int afterOf(int i) {
            return at(after, i);
        }

        int startOf(int i) {
            return at(start, i);
        }

        int behindOf(int i) {
            return at(behind, i);
        }

        /** Byte j of bytes or text, parts joined. */
        int byteOf(int i, long j) {
            return j >= 0 && j < numberOf(i) ? byteAt(data, at(content, i) + (int) j) : NONE;
        }

        int dataAt(int p) {
            return byteAt(data, p);
        }

        long told(int k, int what) {
            if (!isTop(k) || what < 0) return NONE;
            int m = majorOf(k);
            switch (what) {
                case 0: return m;
                case 1: return numberOf(k);
                case 2: return widthOf(k);
                case 3: return startOf(k);
                case 4: return behindOf(k);
                case 5: return at(parent, k);
                default: return m == 2 || m == 3 ? byteOf(k, what - 6) : NONE;
            }
        }

        /** Takes n bytes as the ITEM; the one that was there stays, if they are none. */
        boolean take(byte[] from, int n) {
            for (int i = 0; i < top; i++) put(inside, i, 0);
            joined = topJoined;
            boolean good = readWhole(from, n, TRIAL, NESTED);
            if (good) {
                joined = JOINED;
                readWhole(from, n, 0, 0);
                top = count;
            }
            topJoined = good ? joined : topJoined;
            joined = topJoined;
            count = NESTED;
            return good;
        }

        private boolean readWhole(byte[] from, int n, int place, int first) {
            copy(from, 0, data, place, n);
            open(place, n, first);
            int q = readItem(place, NONE, 1);
            if (q >= 0 && q < stop) bad(q);
            return fault < 0;
        }

        private void open(int place, int n, int first) {
            region = place;
            stop = place + n;
            count = first;
            limit = Math.min(first + MAX_ITEMS, ROOM);
            fault = NONE;
        }

        /** The array, standing nowhere, of the items that bytes hold one behind the other; NONE if they hold none such. */
        int within(int i) {
            if (at(inside, i) != 0) return at(inside, i);
            put(inside, i, NONE);
            if (at(level, i) >= MAX_NESTED || count >= ROOM) return NONE;
            int held = count;
            int deep = at(depth, i);
            int p = at(content, i);
            open(p, (int) numberOf(i), held + 1);
            put(major, held, 4);
            put(width, held, 0);
            put(depth, held, deep);
            put(level, held, at(level, i) + 1);
            int n = 0;
            for (; n <= MAX_LIST && p >= 0 && p < stop; n++) p = n < MAX_LIST ? readItem(p, held, deep + 1) : NONE;
            putLong(number, held, n);
            put(after, held, count);
            if (p >= 0) put(inside, i, held);
            return at(inside, i);
        }

        private int bad(int p) {
            fault = p - region;
            return NONE;
        }

        /** Where the item at p ends; NONE when it is not WELL-FORMED. */
        private int readItem(int p, int within, int deep) {
            if (p >= stop) return bad(stop);
            if (count >= limit || deep > MAX_DEPTH) return bad(p);
            int i = count;
            int q = readHead(p, i);
            if (q < 0) return NONE;
            count++;
            put(parent, i, within);
            put(depth, i, deep);
            put(level, i, within < 0 ? 0 : at(level, within));
            put(inside, i, 0);
            int m = at(major, i);
            if (m == 2 || m == 3) q = readString(i, q, m);
            if (m == 4 || m == 5) q = readList(i, q, m - 3, deep);
            if (m == 6) q = readItem(q, i, deep + 1);
            put(behind, i, q - region);
            put(after, i, count);
            return q;
        }

        /** An initial byte and the bytes of its number, kept as those of item i; a BREAK is none. */
        private int readHead(int p, int i) {
            int m = byteAt(data, p) >> 5;
            int info = byteAt(data, p) & 31;
            if (info >= 28 && info < 31 || info == 31 && (m < 2 || m > 5)) return bad(p);
            int w = info < 24 || info == 31 ? 0 : 1 << (info - 24);
            if (p + 1 + w > stop) return bad(stop);
            long value = info < 24 ? info : 0;
            for (int k = 1; k <= w; k++) value = value << 8 | byteAt(data, p + k);
            if (m == 7 && w == 1 && value < 32) return bad(p + 1);
            if ((m == 4 || m == 5) && below(MAX_LIST, value)) return bad(p);
            put(major, i, m);
            put(width, i, info == 31 ? 31 : w);
            put(start, i, p - region);
            putLong(number, i, value);
            return p + 1 + w;
        }

        private int readString(int i, int p, int m) {
            put(content, i, p);
            if (at(width, i) != 31) return behindBytes(p, longAt(number, i));
            put(content, i, joined);
            int q = p;
            for (int k = 0; k <= TAPE_ROOM && q < stop; k++) {
                if (byteAt(data, q) == 255) {
                    putLong(number, i, joined - at(content, i));
                    return q + 1;
                }
                if (byteAt(data, q) >> 5 != m || (byteAt(data, q) & 31) > 27) return bad(q);
                int from = readPartHead(q);
                int to = from < 0 ? NONE : behindBytes(from, partSize(q));
                if (to < 0) return NONE;
                copy(data, from, data, joined, to - from);
                joined += to - from;
                q = to;
            }
            return bad(stop);
        }

        private int behindBytes(int p, long n) {
            return below(stop - p, n) ? bad(stop) : p + (int) n;
        }

        private int readPartHead(int p) {
            int info = byteAt(data, p) & 31;
            int w = info < 24 ? 0 : 1 << (info - 24);
            return p + 1 + w > stop ? bad(stop) : p + 1 + w;
        }

        /** How many bytes the part has whose head at p is there. */
        long partSize(int p) {
            int info = byteAt(data, p) & 31;
            if (info < 24) return info;
            long value = 0;
            int w = info > 27 ? 0 : 1 << (info - 24);
            for (int k = 1; k <= w; k++) value = value << 8 | byteAt(data, p + k);
            return value;
        }

        /** Where the bytes begin of the part whose head at p is there. */
        int partStart(int p) {
            int info = byteAt(data, p) & 31;
            return info < 24 || info > 27 ? p + 1 : p + 1 + (1 << (info - 24));
        }

        private int readList(int i, int p, int each, int deep) {
            boolean endless = at(width, i) == 31;
            int most = endless ? MAX_LIST : (int) longAt(number, i);
            int q = p;
            for (int k = 0; k <= MAX_LIST; k++) {
                if (!endless && k == most) return q;
                if (q >= stop) return bad(stop);
                if (endless && byteAt(data, q) == 255) {
                    putLong(number, i, k);
                    return q + 1;
                }
                if (k == most) return bad(q);
                for (int half = 0; half < each; half++) {
                    q = readItem(q, i, deep + 1);
                    if (q < 0) return NONE;
                }
            }
            return NONE;
        }
    }

    /**
     * Answers that have been found already, so that none is looked for twice: without them, rules that name others
     * twice each would ask for a power of two. The room grows with what is kept; only in the greatest one may an old
     * answer be driven out.
     */
    private static final class Memo {
        static final int UNKNOWN = -2;
        // What is asked: whether an item is as choices, or as one node alone; before which item a group ends.
        static final int CHOICES = 0;
        static final int ALONE = 1;
        static final int END = 2;
        // Where no item is left: what a group does there is the same in all arrays.
        static final int NOWHERE = 8191;
        private static final int FIRST_ROOM = 1 << 11;
        private static final int LAST_ROOM = 1 << 21;
        private static final int GROWTH = 4;
        private static final int TRIES = 256;
        private static final int ANSWER_BITS = 14;
        private static final int STAMP_SHIFT = 46;
        private static final long LAST_STAMP = (1L << 17) - 1;

        private long[] answers;
        private int kept;
        private long stamp;

        Memo() {
            answers = new long[FIRST_ROOM];
            stamp = 1;
        }

        /** What was found holds no more: there are other RULES, or is another ITEM. */
        void renew() {
            kept = 0;
            stamp++;
            if (stamp < LAST_STAMP) return;
            stamp = 1;
            for (int i = 0; i < answers.length; i++) putLong(answers, i, 0);
        }

        /** What is asked, at which node, in which instance, of which item: what stands between stamp and answer. */
        static long key(int what, int n, int in, int item) {
            return (long) (what & 3) << 30 | (n & 1023) << 20 | (in & 127) << 13 | item & NOWHERE;
        }

        /** The answer; UNKNOWN. */
        int find(long key) {
            long asked = stamp << STAMP_SHIFT - ANSWER_BITS | key;
            int s = slot(asked);
            for (int i = 0; i < TRIES; i++) {
                long there = longAt(answers, s);
                if (there >>> ANSWER_BITS == asked) return (int) (there & (1 << ANSWER_BITS) - 1) - 1;
                if (there >>> STAMP_SHIFT != stamp) return UNKNOWN;
                s = s + 1 & answers.length - 1;
            }
            return UNKNOWN;
        }

        /** Keeps an answer from NONE on. */
        void keep(long key, int answer) {
            if (2 * kept > answers.length && answers.length < LAST_ROOM) grow();
            settle((stamp << STAMP_SHIFT - ANSWER_BITS | key) << ANSWER_BITS | answer + 1);
        }

        private void settle(long entry) {
            int first = slot(entry >>> ANSWER_BITS);
            int s = first;
            for (int i = 0; i < TRIES; i++) {
                boolean past = longAt(answers, s) >>> STAMP_SHIFT != stamp;
                if (past) kept++;
                if (past || longAt(answers, s) >>> ANSWER_BITS == entry >>> ANSWER_BITS) {
                    putLong(answers, s, entry);
                    return;
                }
                s = s + 1 & answers.length - 1;
            }
            putLong(answers, first, entry);
        }

        private void grow() {
            long[] old = answers;
            answers = new long[GROWTH * old.length];
            kept = 0;
            for (int i = 0; i < old.length; i++) {
                if (old[i] >>> STAMP_SHIFT == stamp) settle(old[i]);
            }
        }

        private int slot(long asked) {
            return (int) (asked * 0x9E3779B97F4A7C15L >>> 40) & answers.length - 1;
        }
    }

    /**
     * What is told of an item by one token, or by a range or a comparison of two; and which numbers of major 0 are as a
     * type, 64 of them at once: a mask has a bit for each of a block. Sizes and places of bits are such numbers.
     */
    private static final class Leaves {
        private static final int MAX_CALLS = 80;
        private static final int BLOCK = 64;
        private static final int BLOCKS = 512;
        private static final int LATE_ROOM = 2048;
        private static final int LATE_STEP = 701;
        private static final long BEYOND = 1L << 40;
        private static final long SIZES = 511;

        private Rules rules;
        private Tokens tokens;
        private Tree tree;
        private Instances instances;
        private final Items items;
        private final long[] firstMask;
        private final int[] firstStamp;
        private final long[] lateMask;
        private final long[] lateKey;
        private int stamp;

        Leaves(Rules r, Items all) {
            items = all;
            firstMask = new long[Instances.SPOTS];
            firstStamp = new int[Instances.SPOTS];
            lateMask = new long[LATE_ROOM];
            lateKey = new long[LATE_ROOM];
            rules = r;
            tokens = r.tokens;
            tree = r.tree;
            instances = r.instances;
        }

        void obey(Rules r) {
            rules = r;
            tokens = r.tokens;
            tree = r.tree;
            instances = r.instances;
            stamp++;
        }

        boolean isSo(int n, int item) {
            int tok = at(tree.token, n);
            int m = items.majorOf(item);
            switch (tree.kindOf(n)) {
                case N_NUMBER: return isNumber(item) && compare(item, tok) == 0;
                case N_BYTES: return m == 2 && hasBytes(item, tok);
                case N_TEXT:
                case N_WORD: return m == 3 && hasBytes(item, tok);
                case N_RANGE: return isNumber(item) && inRange(n, item);
                case N_MAJOR: return m == longAt(tokens.high, tok);
                case N_SEVEN: return m == 7 && isSimple(item, tok);
                default: return tree.kindOf(n) == N_ANY;
            }
        }

        /** A tag that is any, or has the number that stands behind #6. */
        boolean isTag(int n, int item) {
            int tok = at(tree.token, n);
            boolean any = at(tokens.bodySize, tok) == 0;
            return items.majorOf(item) == 6 && (any || items.numberOf(item) == longAt(tokens.low, tok));
        }

        /** The item as lt le gt ge asks of it and the number behind. */
        boolean compares(int which, int right, int item) {
            if (!isNumber(item)) return false;
            int order = compare(item, at(tree.token, right));
            switch (which) {
                case C_LT: return order < 0;
                case C_LE: return order <= 0;
                case C_GT: return order > 0;
                default: return order >= 0;
            }
        }

        private boolean isNumber(int item) {
            return items.majorOf(item) == 0 || items.majorOf(item) == 1;
        }

        private boolean inRange(int n, int item) {
            int last = compare(item, at(tree.token, tree.secondOf(n)));
            if (compare(item, at(tree.token, tree.firstOf(n))) < 0) return false;
            return at(tree.third, n) == 1 ? last < 0 : last <= 0;
        }

        /** Below 0, 0 or above 0, as the item is less than, the same as or more than the token's number. */
        private int compare(int item, int tok) {
            int m = items.majorOf(item);
            long mine = items.numberOf(item);
            long other = longAt(tokens.low, tok);
            if (m != longAt(tokens.high, tok)) return m == 1 ? -1 : 1;
            if (mine == other) return 0;
            return below(mine, other) == (m == 0) ? -1 : 1;
        }

        private boolean hasBytes(int item, int tok) {
            int n = at(tokens.bodySize, tok);
            if (items.numberOf(item) != n) return false;
            for (int i = 0; i < n; i++) {
                if (items.byteOf(item, i) != tokens.bodyByte(tok, i)) return false;
            }
            return true;
        }

        private boolean isSimple(int item, int tok) {
            if (at(tokens.bodySize, tok) == 0) return true;
            long n = longAt(tokens.low, tok);
            int w = items.widthOf(item);
            if (n >= 24 && n <= 31) return n == 25 && w == 2 || n == 26 && w == 4 || n == 27 && w == 8;
            return w < 2 && items.numberOf(item) == n;
        }

        /** Whether the item is of a size that is as the type. */
        boolean hasSize(int type, int in, int item) {
            int m = items.majorOf(item);
            long n = items.numberOf(item);
            if (m == 2 || m == 3) return (mask(type, in, (int) n / BLOCK, 0) >>> (int) n % BLOCK & 1) == 1;
            if (m != 0) return false;
            int least = 0;
            for (; least < 8; least++) {
                if (n >>> 8 * least == 0) break;
            }
            return (mask(type, in, 0, 0) & SIZES) >>> least != 0;
        }

        /** Whether the place of each bit that is set in the item is as the type. */
        boolean hasBits(int type, int in, int item) {
            int m = items.majorOf(item);
            long n = items.numberOf(item);
            if (m == 0) return (n & ~mask(type, in, 0, 0)) == 0;
            if (m != 2) return false;
            for (int from = 0; from < n; from += 8) {
                long bits = 0;
                for (int k = 0; k < 8 && from + k < n; k++) bits |= (long) items.byteOf(item, from + k) << 8 * k;
                if (bits != 0 && (bits & ~mask(type, in, from / 8, 0)) != 0) return false;
            }
            return true;
        }

        /** The numbers of a block that are as one of the choices from a node on. */
        private long mask(int n, int in, int block, int calls) {
            long all = 0;
            int c = n;
            for (int i = 0; i < MAX_TOKENS && c >= 0 && calls < MAX_CALLS; i++) {
                all |= maskOf(c, in, block, calls);
                c = tree.nextOf(c);
            }
            return all;
        }

        private long maskOf(int n, int in, int block, int calls) {
            switch (tree.kindOf(n)) {
                case N_NAME:
                case N_UNWRAP:
                case N_AND_NAME:
                case N_NAMED_ENTRY: return maskNamed(n, in, block, calls + 1);
                case N_PAREN:
                case N_AND_GROUP:
                case N_CHOICE:
                case N_ENTRY:
                case N_GROUP_ENTRY: return mask(tree.firstOf(n), in, block, calls + 1);
                case N_CONTROL:
                    long left = mask(tree.firstOf(n), in, block, calls + 1);
                    return left == 0 ? 0 : left & maskControl(n, in, block, calls + 1);
                case N_MAJOR: return longAt(tokens.high, at(tree.token, n)) == 0 ? -1 : 0;
                case N_ANY: return -1;
                case N_NUMBER:
                case N_RANGE: return maskLeaf(n, block);
                default: return 0;
            }
        }

        /**
         * What NAMES lead to is kept: for block 0, which sizes and bits of numbers ask for, as long as the RULES stand. For
         * later blocks it may be driven out, but not by what is asked for the same block.
         */
        private long maskNamed(int n, int in, int block, int calls) {
            instances.follow(rules, n, in);
            int head = instances.head;
            int headIn = instances.headIn;
            int spot = instances.spot;
            if (head < 0) return 0;
            if (spot < 0) return mask(head, headIn, block, calls);
            if (block == 0) {
                if (at(firstStamp, spot) != stamp) putLong(firstMask, spot, mask(head, headIn, 0, calls));
                put(firstStamp, spot, stamp);
                return longAt(firstMask, spot);
            }
            int slot = spot + LATE_STEP * block & LATE_ROOM - 1;
            long key = ((long) stamp * BLOCKS + block) * LATE_ROOM + spot;
            if (longAt(lateKey, slot) != key) putLong(lateMask, slot, mask(head, headIn, block, calls));
            putLong(lateKey, slot, key);
            return longAt(lateMask, slot);
        }

        /** The numbers of a block of which a CONTROL says nothing against. */
        private long maskControl(int n, int in, int block, int calls) {
            int right = tree.secondOf(n);
            long value = numberOf(right);
            switch (at(tree.third, n)) {
                case C_DEFAULT: return -1;
                case C_AND: return mask(right, in, block, calls);
                case C_SIZE: return sized(mask(right, in, 0, calls) & SIZES, block);
                case C_BITS: return withBits(mask(right, in, 0, calls), block);
                case C_EQ: return maskLeaf(right, block);
                case C_NE: return ~maskLeaf(right, block);
                case C_LT: return range(0, value - 1, block);
                case C_LE: return range(0, value, block);
                case C_GT: return range(value + 1, BEYOND, block);
                case C_GE: return range(value, BEYOND, block);
                default: return 0;
            }
        }

        /** The numbers of a block that are below 256^n for one of these n: 0 needs none, those up to 255 one, all others two. */
        private static long sized(long sizes, int block) {
            int least = block * BLOCK < 256 ? 1 : 2;
            long most = sizes >>> least != 0 ? -1 : 0;
            return block == 0 && sizes != 0 ? most | 1 : most;
        }

        /** The numbers of a block whose bits stand at these places alone. */
        private static long withBits(long places, int block) {
            long all = 0;
            for (int i = 0; i < BLOCK; i++) {
                if ((block * BLOCK + i & ~places) == 0) all |= 1L << i;
            }
            return all;
        }

        private long maskLeaf(int n, int block) {
            int k = tree.kindOf(n);
            if (k == N_NUMBER) return range(numberOf(n), numberOf(n), block);
            if (k != N_RANGE) return 0;
            long to = numberOf(tree.secondOf(n));
            return range(numberOf(tree.firstOf(n)), at(tree.third, n) == 1 ? to - 1 : to, block);
        }

        /** The number that a node is; any one below 0 is -1, one that is above all sizes and places is BEYOND. */
        private long numberOf(int n) {
            int tok = at(tree.token, n);
            long value = longAt(tokens.low, tok);
            if (longAt(tokens.high, tok) == 1) return -1;
            return below(BEYOND, value) ? BEYOND : value;
        }

        /** The numbers of a block from one to another. */
        private static long range(long first, long last, int block) {
            long from = Math.max(first - (long) block * BLOCK, 0);
            long to = Math.min(last - (long) block * BLOCK, BLOCK - 1);
            return from > to ? 0 : -1L >>> (int) (BLOCK - 1 - to + from) << (int) from;
        }
    }

    /**
     * Tells whether an item is as a type says. What is begun and not ended stands in a row of frames, so that no call
     * calls itself, however deep types, groups and items lie in one another.
     */
    private static final class Judge {
        private static final int NO = 0;
        private static final int YES = 1;
        // What is no answer yet: a node is to be entered, or tested as a CONTROL asks; groups are to go on.
        private static final int GO = Memo.UNKNOWN;
        private static final int TEST = -3;
        private static final int GO_ON = -4;
        private static final int GO_FIT = -5;
        private static final int ELSE = 0;
        private static final int KEEP = 1;
        private static final int CHECK = 2;
        private static final int ARRAY = 3;
        private static final int GROUP = 4;
        private static final int MAP = 5;
        private static final int FITS = 6;

        // The fields of a frame. Those from ENTRY on are for groups: where its entry stands, where the group has come to.
        private static final int WHAT = 0;
        private static final int NODE = 1;
        private static final int IN = 2;
        private static final int ITEM = 3;
        private static final int ENTRY = 4;
        private static final int ORIGIN = 5;
        private static final int ROOT = 6;
        private static final int HEAD = 7;
        private static final int SPOT = 8;
        private static final int TIMES = 9;
        private static final int FOUND = 10;
        private static final int FRAME = 11;
        private static final int FRAMES = 2048;

        private static final long MANY_STEPS = 1L << 50;
        private static final int MAX_CALLS = 2 * MAX_PATH;
        // Six pairs can be given in six steps: what can be reached in eight, can in any more.
        private static final int ENOUGH_TIMES = 8;
        private static final int GIVEN_SETS = 64;
        private static final int FITS_ROOM = (MAX_DEPTH + 1) * MAX_ENTRIES;

        private Rules rules;
        private Tree tree;
        private Instances instances;
        private final Items items;
        private final Memo memo;
        private final Leaves leaves;
        private final int[] frames;
        private int top;
        private int goNode;
        private int goIn;
        private int goItem;
        private int group;
        private int groupIn;
        private final int[] fits;
        private int fitted;
        private final long[] wayKnown;
        private final long[] wayEnds;

        Judge(Rules r, Items all, Memo known) {
            rules = r;
            tree = r.tree;
            instances = r.instances;
            items = all;
            memo = known;
            leaves = new Leaves(r, all);
            frames = new int[FRAMES * FRAME];
            fits = new int[FITS_ROOM];
            wayKnown = new long[MAX_ENTRIES];
            wayEnds = new long[MAX_ENTRIES * GIVEN_SETS];
        }

        void obey(Rules r) {
            rules = r;
            tree = r.tree;
            instances = r.instances;
            leaves.obey(r);
        }

        /** Each step enters a node or takes an answer; as each answer is kept, there are far less of them than the bound. */
        boolean says(int rule, int item) {
            top = 0;
            fitted = 0;
            int answer = goTo(at(rules.chain, rule), 0, item);
            for (long step = 0; step < MANY_STEPS; step++) {
                if (answer == GO) answer = enter(goNode, goIn, goItem);
                else if (answer == TEST) answer = check(goNode, goIn, goItem);
                else if (answer == GO_ON) answer = goOn();
                else if (answer == GO_FIT) answer = goFit();
                else if (top <= 0) return answer == YES;
                else answer = leave(top - 1, answer);
            }
            return false;
        }

        private int goTo(int n, int in, int item) {
            goNode = n;
            goIn = in;
            goItem = item;
            return GO;
        }

        private int look(int f, int field) {
            return at(frames, f * FRAME + field);
        }

        private void set(int f, int field, int value) {
            int i = f * FRAME + field;
            if (i >= 0 && i < frames.length) frames[i] = value;
        }

        private int push(int what, int n, int in, int item) {
            int f = top;
            top++;
            set(f, WHAT, what);
            set(f, NODE, n);
            set(f, IN, in);
            set(f, ITEM, item);
            return f;
        }

        private int enter(int n, int instance, int item) {
            if (n < 0) return NO;
            int in = tree.chainIn(n, instance);
            if (tree.nextOf(n) >= 0) push(ELSE, tree.nextOf(n), in, item);
            switch (tree.kindOf(n)) {
                case N_NAME:
                case N_UNWRAP:
                case N_AND_NAME:
                case N_NAMED_ENTRY: return enterNamed(n, in, item);
                case N_AND_GROUP:
                case N_PAREN:
                case N_CHOICE:
                case N_ENTRY:
                case N_GROUP_ENTRY: return goTo(tree.firstOf(n), in, item);
                case N_TAG: return leaves.isTag(n, item) ? goTo(tree.firstOf(n), in, item + 1) : NO;
                case N_CONTROL:
                    push(CHECK, n, in, item);
                    return goTo(tree.firstOf(n), in, item);
                case N_ARRAY: return enterArray(n, tree.aloneIn(n, in), item);
                case N_MAP: return enterMap(n, tree.aloneIn(n, in), item);
                default: return leaves.isSo(n, item) ? YES : NO;
            }
        }

        private int enterNamed(int n, int in, int item) {
            instances.follow(rules, n, in);
            int head = instances.head;
            int headIn = tree.chainIn(head, instances.headIn);
            if (head < 0) return NO;
            if (head >= rules.ownNode) {
                int known = memo.find(Memo.key(Memo.CHOICES, head, headIn, item));
                if (known != GO) return known;
                push(KEEP, head, headIn, item);
            }
            return goTo(head, headIn, item);
        }

        /** Takes the last frame, now that the answer of what was asked for it is there. */
        private int leave(int f, int answer) {
            int what = look(f, WHAT);
            if (what == GROUP) return gained(f, answer);
            if (what == FITS) return answered(f, answer);
            int n = look(f, NODE);
            int in = look(f, IN);
            int item = look(f, ITEM);
            top--;
            switch (what) {
                case ELSE: return answer == YES ? YES : goTo(n, in, item);
                case KEEP: return kept(Memo.CHOICES, f, answer);
                case ARRAY: return kept(Memo.ALONE, f, answer == items.afterOf(item) ? YES : NO);
                case MAP:
                    fitted = look(f, SPOT);
                    return kept(Memo.ALONE, f, isGiven(n, item) ? YES : NO);
                default:
                    goTo(n, in, item);
                    return answer == YES ? TEST : NO;
            }
        }

        private int kept(int what, int f, int answer) {
            memo.keep(Memo.key(what, look(f, NODE), look(f, IN), look(f, ITEM)), answer);
            return answer;
        }

        /** What a CONTROL asks of an item that is as the type before it. */
        private int check(int n, int in, int item) {
            int which = at(tree.third, n);
            int right = tree.secondOf(n);
            switch (which) {
                case C_DEFAULT: return YES;
                case C_AND: return goTo(right, in, item);
                case C_SIZE: return leaves.hasSize(right, in, item) ? YES : NO;
                case C_BITS:
                    long key = Memo.key(Memo.ALONE, n, tree.aloneIn(n, in), item);
                    int answer = memo.find(key);
                    if (answer != GO) return answer;
                    answer = leaves.hasBits(right, in, item) ? YES : NO;
                    memo.keep(key, answer);
                    return answer;
                case C_CBOR:
                case C_CBORSEQ:
                    int held = items.majorOf(item) == 2 ? items.within(item) : NONE;
                    if (held < 0 || which == C_CBOR && items.numberOf(held) != 1) return NO;
                    return goTo(right, in, which == C_CBOR ? held + 1 : held);
                case C_EQ: return leaves.isSo(right, item) ? YES : NO;
                case C_NE: return leaves.isSo(right, item) ? NO : YES;
                default: return leaves.compares(which, right, item) ? YES : NO;
            }
        }

        private int enterArray(int n, int in, int item) {
            if (items.majorOf(item) != 4) return NO;
            int known = memo.find(Memo.key(Memo.ALONE, n, in, item));
            if (known != GO) return known;
            int f = push(ARRAY, n, in, item);
            pushGroup(GROUP, f, tree.firstOf(n), in, item + 1);
            return GO_ON;
        }

        private void pushGroup(int what, int root, int choices, int in, int item) {
            int g = push(what, choices, in, item);
            set(g, ROOT, root);
            set(g, HEAD, choices);
            set(g, ORIGIN, 0);
            beginChoice(g, choices);
        }

        private void beginChoice(int g, int choice) {
            set(g, NODE, choice);
            set(g, SPOT, look(g, ITEM));
            set(g, ENTRY, tree.firstOf(choice));
            set(g, TIMES, 0);
            set(g, FOUND, 0);
        }

        private void beginEntry(int g, int entry) {
            set(g, ENTRY, entry);
            set(g, TIMES, 0);
            set(g, FOUND, 0);
        }

        /** Sets group and groupIn: the first choice of the group that an entry is, and the instance in which that is read. */
        private void findGroup(int entry, int in) {
            group = tree.firstOf(entry);
            groupIn = in;
            if (tree.kindOf(entry) == N_NAMED_ENTRY) {
                instances.follow(rules, entry, in);
                group = instances.head;
                groupIn = instances.headIn;
            }
            groupIn = tree.chainIn(group, groupIn);
        }

        /**
         * Goes on with the groups of an array on top of the frames, until an item is to be looked at or one has ended: its
         * answer is before which item it ends, or NONE if none of its choices takes.
         */
        private int goOn() {
            for (int i = 0; i < ENDLESS; i++) {
                int g = top - 1;
                int entry = look(g, ENTRY);
                if (look(g, NODE) < 0 || entry < 0) {
                    top--;
                    return ended(g, look(g, NODE) < 0 ? NONE : look(g, SPOT));
                }
                if (look(g, TIMES) >= rules.most(entry) || rules.least(entry) > rules.most(entry)) {
                    endEntry(g, entry);
                    continue;
                }
                int next = known(g, entry);
                if (next != GO) take(g, entry, next);
                else if (tree.kindOf(entry) == N_ENTRY) return goTo(tree.firstOf(entry), look(g, IN), look(g, SPOT));
                else pushGroup(GROUP, look(g, ROOT), group, groupIn, look(g, SPOT));
            }
            return NONE;
        }

        /** Before which item an entry ends that is tried once more, if that is known. */
        private int known(int g, int entry) {
            int spot = look(g, SPOT);
            boolean atEnd = spot >= items.afterOf(look(look(g, ROOT), ITEM));
            if (tree.kindOf(entry) == N_ENTRY) return atEnd ? NONE : GO;
            findGroup(entry, look(g, IN));
            int found = memo.find(Memo.key(Memo.END, group, groupIn, atEnd ? Memo.NOWHERE : spot));
            return found >= 0 && atEnd ? spot : found;
        }

        /** Keeps before which item a group ends; where no item is left, that it takes nothing. */
        private int ended(int g, int end) {
            int from = look(g, ITEM);
            boolean atEnd = from >= items.afterOf(look(look(g, ROOT), ITEM));
            memo.keep(Memo.key(Memo.END, look(g, HEAD), look(g, IN), atEnd ? Memo.NOWHERE : from), atEnd && end >= 0 ? 0 : end);
            return end;
        }

        private int gained(int g, int answer) {
            int entry = look(g, ENTRY);
            int next = answer;
            if (tree.kindOf(entry) == N_ENTRY) next = answer == YES ? items.afterOf(look(g, SPOT)) : NONE;
            take(g, entry, next);
            return GO_ON;
        }

        /** What takes nothing is not tried again, and counts as often as it must. */
        private void take(int g, int entry, int next) {
            int times = look(g, TIMES);
            if (next > look(g, SPOT)) {
                set(g, TIMES, times + 1);
                set(g, SPOT, next);
                return;
            }
            if (next == look(g, SPOT)) set(g, TIMES, Math.max(times, rules.least(entry)));
            endEntry(g, entry);
        }

        private void endEntry(int g, int entry) {
            boolean often = look(g, TIMES) >= rules.least(entry) && rules.least(entry) <= rules.most(entry);
            if (often) beginEntry(g, tree.nextOf(entry));
            else beginChoice(g, tree.nextOf(look(g, NODE)));
        }

        private int enterMap(int n, int in, int item) {
            if (items.majorOf(item) != 5 || items.numberOf(item) > MAX_PAIRS) return NO;
            int known = memo.find(Memo.key(Memo.ALONE, n, in, item));
            if (known != GO) return known;
            int f = push(MAP, n, in, item);
            set(f, SPOT, fitted);
            fitted += at(tree.weight, n);
            pushGroup(FITS, f, tree.firstOf(n), in, item);
            return GO_FIT;
        }

        /**
         * Goes on with the groups of a map on top of the frames: for each entry with a key it is found which pairs fit it.
         * TIMES counts what has been asked, twice a pair: whether its key, whether its value is so; SPOT is its key.
         */
        private int goFit() {
            for (int i = 0; i < ENDLESS; i++) {
                int g = top - 1;
                int entry = look(g, ENTRY);
                if (look(g, NODE) < 0) {
                    top--;
                    if (look(top - 1, WHAT) != FITS) return YES;
                } else if (entry < 0) {
                    beginChoice(g, tree.nextOf(look(g, NODE)));
                } else if (tree.kindOf(entry) != N_ENTRY) {
                    beginEntry(g, tree.nextOf(entry));
                    findGroup(entry, look(g, IN));
                    pushGroup(FITS, look(g, ROOT), group, groupIn, look(g, ITEM));
                    set(top - 1, ORIGIN, look(g, ORIGIN) + at(tree.place, entry) + 1);
                } else if (asksMore(g, entry)) {
                    return ask(g, entry);
                } else {
                    put(fits, look(look(g, ROOT), SPOT) + look(g, ORIGIN) + at(tree.place, entry), look(g, FOUND));
                    beginEntry(g, tree.nextOf(entry));
                }
            }
            return YES;
        }

        private boolean asksMore(int g, int entry) {
            return tree.secondOf(entry) >= 0 && look(g, TIMES) < 2 * items.numberOf(look(g, ITEM));
        }

        private int ask(int g, int entry) {
            int times = look(g, TIMES);
            if (times == 0) set(g, SPOT, look(g, ITEM) + 1);
            int key = look(g, SPOT);
            boolean forKey = times % 2 == 0;
            return goTo(forKey ? tree.secondOf(entry) : tree.firstOf(entry), look(g, IN), forKey ? key : items.afterOf(key));
        }

        /** What is found: the pairs whose key is as the entry's key, and 64 times those whose value is as its type, too. */
        private int answered(int g, int answer) {
            int times = look(g, TIMES);
            int bit = 1 << times / 2;
            if (answer == YES) set(g, FOUND, look(g, FOUND) | (times % 2 == 0 ? bit : GIVEN_SETS * bit));
            if (answer == YES && times % 2 == 0) {
                set(g, TIMES, times + 1);
                return GO_FIT;
            }
            set(g, TIMES, times - times % 2 + 2);
            set(g, SPOT, items.afterOf(items.afterOf(look(g, SPOT))));
            return GO_FIT;
        }

        /** Whether all pairs of a map can be given to entries, now that it is known which fit. */
        private boolean isGiven(int n, int map) {
            for (int i = 0; i < at(tree.weight, n); i++) putLong(wayKnown, i, 0);
            int all = (1 << (int) items.numberOf(map)) - 1;
            return (ways(tree.firstOf(n), 0, 0, 0) >>> all & 1) == 1;
        }

        /**
         * Which sets of pairs can have been given behind a group, when those of one set are before it: a bit for each.
         * That what a CUT has seized is given to none behind it needs no more than this: as all pairs must be given,
         * those must have been given when their CUT's entry is gone through.
         */
        private long ways(int choices, int origin, int given, int calls) {
            long all = 0;
            int c = choices;
            for (int i = 0; i < MAX_TOKENS && c >= 0 && calls < MAX_CALLS; i++) {
                long sets = 1L << given;
                int e = tree.firstOf(c);
                for (int j = 0; j < MAX_TOKENS && e >= 0 && sets != 0; j++) {
                    int spot = origin + at(tree.place, e);
                    if (rules.least(e) > rules.most(e)) sets = 0;
                    else if (tree.kindOf(e) == N_ENTRY) sets = giveTo(e, at(fits, fitted + spot), sets);
                    else sets = throughGroup(e, spot, sets, calls);
                    e = tree.nextOf(e);
                }
                all |= sets;
                c = tree.nextOf(c);
            }
            return all;
        }

        /** Goes through an entry that is a group, as often as its OCCUR lets, from each of some sets. */
        private long throughGroup(int entry, int spot, long sets, int calls) {
            int least = Math.min(rules.least(entry), ENOUGH_TIMES);
            int most = Math.min(rules.most(entry), ENOUGH_TIMES);
            long all = least == 0 ? sets : 0;
            long step = sets;
            for (int times = 1; times <= most && step != 0; times++) {
                long next = 0;
                for (int s = 0; s < GIVEN_SETS; s++) {
                    if ((step >>> s & 1) == 1) next |= waysWithin(entry, spot, s, calls);
                }
                step = next;
                if (times >= least) all |= step;
            }
            return all;
        }

        private long waysWithin(int entry, int spot, int given, int calls) {
            if ((longAt(wayKnown, spot) >>> given & 1) == 1) return longAt(wayEnds, spot * GIVEN_SETS + given);
            long ends = ways(choicesOf(entry), spot + 1, given, calls + 1);
            putLong(wayKnown, spot, longAt(wayKnown, spot) | 1L << given);
            putLong(wayEnds, spot * GIVEN_SETS + given, ends);
            return ends;
        }

        /** The first choice of the group that an entry is, which is the same node in all instances. */
        private int choicesOf(int entry) {
            int n = tree.firstOf(entry);
            if (tree.kindOf(entry) == N_GROUP_ENTRY) return n;
            return tree.kindOf(n) == N_UNWRAP ? tree.firstOf(at(tree.mark, n)) : at(rules.chain, tree.secondOf(n));
        }

        /** Goes through an entry of one type with each set of pairs that can have been given before it. */
        private long giveTo(int entry, int found, long sets) {
            int least = rules.least(entry);
            if (tree.secondOf(entry) < 0) return least == 0 ? sets : 0;
            int keyed = found & GIVEN_SETS - 1;
            int valued = found / GIVEN_SETS;
            boolean cut = at(tree.mark, entry) == 1;
            long all = 0;
            for (int s = 0; s < GIVEN_SETS; s++) {
                if ((sets >>> s & 1) == 0) continue;
                int more = cut ? keyed & ~s : valued & ~s;
                if (cut && (more & ~valued) != 0) continue;
                // Every part of what is free may be given; behind a CUT all of it must be.
                int part = more;
                for (int i = 0; i < GIVEN_SETS; i++) {
                    int times = Integer.bitCount(part);
                    if (times >= least && times <= rules.most(entry)) all |= 1L << (s | part);
                    if (cut || part == 0) break;
                    part = part - 1 & more;
                }
            }
            return all;
        }
    }

    /** Puts items into OUT: as a text, or in their shortest form. */
    private static final class Writer {
        private static final int MAX_DIGITS = 20;

        private final Items items;
        private final byte[] out;
        private int outSize;
        private final byte[] draft;
        private final byte[] sorted;
        private int size;
        private final int[] from;
        private final int[] to;
        private final int[] order;
        private final int[] digits;

        Writer(Items all) {
            items = all;
            out = new byte[OUT_ROOM];
            outSize = 0;
            draft = new byte[OUT_ROOM];
            sorted = new byte[OUT_ROOM];
            from = new int[MAX_ITEMS];
            to = new int[MAX_ITEMS];
            order = new int[MAX_LIST];
            digits = new int[MAX_DIGITS];
        }

        int kept(int i) {
            return i < outSize ? byteAt(out, i) : NONE;
        }

        int tell(int item) {
            size = 0;
            addItem(item, 0);
            return keepDraft();
        }

        int pack(int item) {
            size = 0;
            packItem(item, 0);
            return keepDraft();
        }

        private int keepDraft() {
            if (size > OUT_ROOM) return NONE;
            copy(draft, 0, out, 0, size);
            outSize = size;
            return size;
        }

        /** What is behind the room is only counted. */
        private void add(int c) {
            if (size >= 0 && size < draft.length) draft[size] = (byte) c;
            size++;
        }

        private void addWord(String word) {
            for (int i = 0; i < word.length(); i++) add(word.charAt(i));
        }

        private void addHex(long value, int digits) {
            for (int i = digits - 1; i >= 0; i--) {
                int d = (int) (value >>> 4 * i) & 15;
                add(d < 10 ? '0' + d : 'a' + d - 10);
            }
        }

        /** A number from 0 to 2^64 - 1, whose digits come from its end. */
        private void addNumber(long number) {
            long n = number;
            int last = 0;
            for (; last < MAX_DIGITS && (last == 0 || n != 0); last++) {
                put(digits, last, (int) (n - 10 * tenth(n)));
                n = tenth(n);
            }
            for (int i = last - 1; i >= 0; i--) add('0' + at(digits, i));
        }

        private static long tenth(long n) {
            return (n >>> 1) / 5;
        }

        private void addItem(int i, int deep) {
            if (deep > MAX_DEPTH) return;
            long n = items.numberOf(i);
            switch (items.majorOf(i)) {
                case 0:
                    addNumber(n);
                    break;
                case 1:
                    addNegative(n);
                    break;
                case 2:
                case 3:
                    addString(i);
                    break;
                case 4:
                    addList(i, '[', ']', deep);
                    break;
                case 5:
                    addList(i, '{', '}', deep);
                    break;
                case 6:
                    addNumber(n);
                    add('(');
                    addItem(i + 1, deep + 1);
                    add(')');
                    break;
                default: addSeven(n, items.widthOf(i));
            }
        }

        /** -1 less n, which for the greatest n is -2^64. */
        private void addNegative(long n) {
            add('-');
            if (n == -1) addWord("18446744073709551616");
            else addNumber(n + 1);
        }

        private void addSeven(long n, int width) {
            if (width > 1) {
                addWord(width == 2 ? "float16(0x" : width == 4 ? "float32(0x" : "float64(0x");
                addHex(n, 2 * width);
                add(')');
            } else if (n == 20) addWord("false");
            else if (n == 21) addWord("true");
            else if (n == 22) addWord("null");
            else if (n == 23) addWord("undefined");
            else {
                addWord("simple(");
                addNumber(n);
                add(')');
            }
        }

        private void addList(int i, int open, int close, int deep) {
            add(open);
            if (items.widthOf(i) == 31) addWord("_ ");
            int child = i + 1;
            for (int k = 0; k < 2 * MAX_LIST && child < items.afterOf(i); k++) {
                boolean value = open == '{' && (k & 1) == 1;
                if (k > 0) addWord(value ? ": " : ", ");
                addItem(child, deep + 1);
                child = items.afterOf(child);
            }
            add(close);
        }

        private void addString(int i) {
            int m = items.majorOf(i);
            int p = items.startOf(i);
            if (items.widthOf(i) != 31) {
                addBytes(m, items.partStart(p), items.partSize(p));
                return;
            }
            addWord("(_ ");
            int last = items.behindOf(i) - 1;
            p++;
            for (int k = 0; k <= TAPE_ROOM && p < last; k++) {
                if (k > 0) addWord(", ");
                addBytes(m, items.partStart(p), items.partSize(p));
                p = items.partStart(p) + (int) items.partSize(p);
            }
            add(')');
        }

        private void addBytes(int major, int p, long n) {
            addWord(major == 2 ? "h'" : "\"");
            for (int k = 0; k < n; k++) {
                int c = items.dataAt(p + k);
                if (major == 2) addHex(c, 2);
                else addSign(c);
            }
            add(major == 2 ? '\'' : '"');
        }

        private void addSign(int c) {
            if (c < 32 || c > 126) {
                addWord("\\x");
                addHex(c, 2);
                return;
            }
            if (c == '"' || c == '\\') add('\\');
            add(c);
        }

        private void packItem(int i, int deep) {
            if (deep > MAX_DEPTH) return;
            int m = items.majorOf(i);
            long n = items.numberOf(i);
            put(from, i, size);
            if (m == 7 && items.widthOf(i) > 1) packFloat(n, items.widthOf(i));
            else packHead(m, n);
            if (m == 2 || m == 3) {
                for (int k = 0; k < n; k++) add(items.byteOf(i, k));
            }
            if (m >= 4 && m <= 6) {
                int child = i + 1;
                for (int k = 0; k < 2 * MAX_LIST && child < items.afterOf(i); k++) {
                    packItem(child, deep + 1);
                    child = items.afterOf(child);
                }
            }
            if (m == 5) sortPairs(i);
            put(to, i, size);
        }

        private void packFloat(long bits, int width) {
            add(width == 2 ? 0xf9 : width == 4 ? 0xfa : 0xfb);
            packNumber(bits, width);
        }

        private void packHead(int m, long n) {
            int width = 8;
            if (n >>> 32 == 0) width = 4;
            if (n >>> 16 == 0) width = 2;
            if (n >>> 8 == 0) width = 1;
            if (!below(n, 24)) add(m << 5 | (width == 8 ? 27 : width == 4 ? 26 : width == 2 ? 25 : 24));
            else {
                add(m << 5 | (int) n);
                width = 0;
            }
            packNumber(n, width);
        }

        private void packNumber(long n, int width) {
            for (int i = width - 1; i >= 0; i--) add((int) (n >>> 8 * i) & 255);
        }

        /** Puts the pairs of a map, which are in the draft, by their keys' bytes; the same keys stay as they stand. */
        private void sortPairs(int map) {
            int n = 0;
            int key = map + 1;
            for (; n < MAX_LIST && key < items.afterOf(map); n++) {
                int spot = n;
                for (; spot > 0 && isBefore(key, at(order, spot - 1)); spot--) put(order, spot, at(order, spot - 1));
                put(order, spot, key);
                key = items.afterOf(items.afterOf(key));
            }
            int begin = at(from, map + 1);
            int end = 0;
            for (int k = 0; k < n; k++) {
                int first = at(order, k);
                int bytes = at(to, items.afterOf(first)) - at(from, first);
                copy(draft, at(from, first), sorted, end, bytes);
                end += bytes;
            }
            if (n > 0) copy(sorted, 0, draft, begin, end);
        }

        private boolean isBefore(int key, int other) {
            int n = at(to, key) - at(from, key);
            int m = at(to, other) - at(from, other);
            for (int k = 0; k < n && k < m; k++) {
                int c = byteAt(draft, at(from, key) + k);
                int d = byteAt(draft, at(from, other) + k);
                if (c != d) return c < d;
            }
            return n < m;
        }
    }
}
