import java.util.Random;

/**
 * An object that has had many calls answers as a new one that has had the latest RULES and the latest ITEM only; texts with
 * FAULTS and bytes that are no ITEM in between leave these as they are, and calls without an answer leave OUT.
 */
public final class HistoryTest {
    private static final String[] TEXTS = {
        "a = [* int] b = {* tstr => a} c = a / b / c2 c2 = int", "a = {x: int, * any => any}", "m<p> = [p, p] a = m<int> / m<tstr> b = [m<a>]",
        "g = (int, ? tstr) a = [* g] b = {k: [g]}", "a = bstr .cbor [* int] b = bstr .cborseq [* int] c = bstr .size 3", "", "x = any y = #7 z = #6.1(any)",
        "int = 1", "a = zz", "a = [", "a = 1 a = 2", "a = a", "a = 1.5", "a = b b = (1, 2) c = {b: b}", "%",
        "n = (1: 2 // tstr => int) a = {* n} b = {+ n, ? x: a} c = &n d = [n]", "a = uint .size (1 / 3) b = uint .bits (0 / 9)", "a = (int, tstr)",
        "t = #6.1(#7.26) a = ~t / t b = [~l, * ~t] l = [int]", "a = int b = a c = b d = c e = d f = {e => f} / [* f] / a",
    };
    private static final String[] ITEMS = {
        "00", "83010203", "80", "a0", "a1617801", "a26178016179f5", "43820102", "43010203", "5f4101420203ff", "f93c00", "c1fa00000000",
        "c100", "9f0060ff", "bf616b8100ff", "a10102", "a20102616107", "81820001", "60", "", "ff", "81", "1c", "0000", "f800", "9f", "8200fa00000000",
        "a16161a0", "1a00ffffff", "190100", "8182820102820304", "a1a1000080",
    };
    private static final int MOST_CALLS = 512;
    private static final int NONE = -1;
    // What each text and each item of these answers to a new object.
    private static final int[] FAULTS = new int[TEXTS.length];
    private static final int[] PLACES = new int[TEXTS.length];
    private static final int[] SIZES = new int[ITEMS.length];

    private final ItemJudge x = new ItemJudge();
    private int calls;
    private int text = NONE;
    private int item = NONE;
    private String out = "";
    private int place = NONE;

    public static void main(String[] args) {
        for (int i = 0; i < TEXTS.length; i++) {
            Probe p = new Probe();
            FAULTS[i] = p.grammar(TEXTS[i]);
            PLACES[i] = p.judge.place();
        }
        for (int i = 0; i < ITEMS.length; i++) SIZES[i] = new Probe().item(ITEMS[i]);
        Random random = new Random(17);
        for (int run = 0; run < 400; run++) new HistoryTest().run(random);
        Probe.finish();
    }

    /** Calls as many as an object has. */
    private void run(Random random) {
        while (calls < MOST_CALLS - 60) {
            int what = random.nextInt(10);
            if (what < 2) takeText(random.nextInt(TEXTS.length));
            else if (what < 5) takeItem(random.nextInt(ITEMS.length));
            else if (what < 8) askJudge(random);
            else askText(random);
        }
        askAll();
    }

    private void feed(String bytes) {
        Probe p = new Probe();
        p.judge = x;
        p.tape(bytes);
        calls += bytes.length() / 20 + 2;
    }

    private void takeText(int t) {
        feed(TEXTS[t]);
        Probe.due("grammar", x.grammar(), FAULTS[t]);
        calls++;
        if (FAULTS[t] >= 0) text = t;
        place = PLACES[t];
        Probe.due("place", x.place(), place);
        calls++;
    }

    private void takeItem(int i) {
        feed(Probe.fromHex(ITEMS[i]));
        Probe.due("item", x.item(), SIZES[i]);
        calls++;
        if (SIZES[i] >= 0) item = i;
    }

    /** A new object with the latest RULES and the latest ITEM. */
    private Probe fresh() {
        Probe p = new Probe();
        if (text >= 0) p.grammar(TEXTS[text]);
        if (item >= 0) p.item(ITEMS[item]);
        return p;
    }

    private String latest() {
        return (text >= 0 ? TEXTS[text] : "no RULES") + " and " + (item >= 0 ? ITEMS[item] : "no ITEM");
    }

    private void askJudge(Random random) {
        int k = random.nextInt(7) - 1;
        int n = random.nextInt(8) - 1;
        Probe.due("judge " + k + ", " + n + " with " + latest(), x.judge(k, n), fresh().judge.judge(k, n));
        calls++;
    }

    private void askText(Random random) {
        int n = random.nextInt(7) - 1;
        boolean shortest = random.nextBoolean();
        ItemJudge other = fresh().judge;
        int size = shortest ? other.shorten(n) : other.write(n);
        Probe.due("text of " + n + " with " + latest(), shortest ? x.shorten(n) : x.write(n), size);
        if (size >= 0) out = bytes(other);
        // Looking at OUT takes calls, too.
        int i = random.nextInt(12);
        Probe.due("out with " + latest(), x.out(i), i < out.length() ? out.charAt(i) : NONE);
        Probe.due("out at its end", x.out(out.length()), NONE);
        calls += 3;
    }

    private static String bytes(ItemJudge other) {
        StringBuilder all = new StringBuilder();
        for (int i = 0; other.out(i) >= 0; i++) all.append((char) other.out(i));
        return all.toString();
    }

    private void askAll() {
        ItemJudge other = fresh().judge;
        Probe.due("place", x.place(), place);
        for (int k = 0; k < 5 && calls < MOST_CALLS - 6; k++) {
            Probe.due("rule with " + latest(), x.rule(k, -1), other.rule(k, -1));
            Probe.due("node with " + latest(), x.node(k, 1), other.node(k, 1));
            Probe.due("judge with " + latest(), x.judge(k, 0), other.judge(k, 0));
            calls += 3;
        }
    }
}
