/** All promises: whatever is called, with whatever numbers, each call answers, and with what it can answer. */
public final class AnyCallsTest {
    private static final String[] PIECES = {"a", "b", "c", "p", "int", "any", "tstr", "bytes", "time", "$x", "$$g", " = ", " = ", " /= ", " //= ", " / ", " // ", "(",
        ")", "{", "}", "[", "]", "<", ">", ", ", ": ", " ^ ", " => ", "~", "&", "#", "#6(", "#6.1(", "#7.25", "#3", "..", "...", " .size ", " .cbor ", " .cborseq ",
        " .bits ", " .and ", " .lt ", " .eq ", " .no ", "1", "0x1f", "-3", "1.5", "*", "+", "?", "2*3 ", "\"a\"", "'b'", "h'0a'", "h'", "\n", ";x\n", " ", "%"};
    private static final String[] RULES = {"a = [* a] / int / {* any => a} / bytes .cbor a / #6(a)\n", "b<p> = [p] / p\n", "c = b<a> / b<(1 / 2)>\n",
        "g = (x: 1, ? 2 => 3 // * int)\n", "d = [g, * g] / {g} / &g\n", "$e = ~time / [~f]\n", "f = [1, ~d2]\n", "d2 = {y: 2}\n"};

    private static long state = 20261119;

    private static int random(int n) {
        state = state * 6364136223846793005L + 1442695040888963407L;
        return (int) ((state >>> 33) % n);
    }

    public static void main(String[] args) {
        for (int round = 0; round < 1500; round++) {
            Probe p = new Probe();
            for (int call = 0; call < 40; call++) anyCall(p);
        }
        limitsOfCalls();
        Probe.finish();
    }

    private static int number() {
        int[] some = {0, 1, 2, 3, 5, 6, 7, 20, 100, 200, 3000, -1, -2, -3, -4, -5, Integer.MAX_VALUE, Integer.MIN_VALUE, 1024, 803, 804};
        return random(3) == 0 ? random(1 << 30) - (1 << 29) : some[random(some.length)];
    }

    private static void within(String what, long got, long least, long most) {
        Probe.due(what + " answered " + got + ", which is from " + least + " to " + most, got >= least && got <= most ? 1 : 0, 1);
    }

    private static void anyCall(Probe p) {
        switch (random(12)) {
            case 0:
                within("feed", p.judge.feed(number(), number(), number(), number(), number()), -1, 3000);
                break;
            case 1:
                within("end", p.judge.end(random(2) == 0 ? random(21) : number()), -1, 3000);
                break;
            case 2:
            case 3:
                grammar(p);
                break;
            case 4:
            case 5:
                item(p);
                break;
            case 6:
                within("rule", p.judge.rule(random(2) == 0 ? random(4) : number(), number()), -1, 255);
                break;
            case 7:
                p.judge.node(random(2) == 0 ? random(9) : number(), number());
                break;
            case 8:
                within("write", p.judge.write(random(2) == 0 ? random(9) : number()), -1, 4000);
                break;
            case 9:
                within("shorten", p.judge.shorten(random(2) == 0 ? random(9) : number()), -1, 3000);
                break;
            case 10:
                within("out", p.judge.out(number()), -1, 255);
                break;
            default:
                for (int k = 0; k < 5; k++) within("judge", p.judge.judge(k, random(2) == 0 ? random(5) : number()), -1, 1);
        }
    }

    private static void grammar(Probe p) {
        StringBuilder text = new StringBuilder();
        int n = random(12);
        boolean whole = random(2) == 0;
        for (int i = 0; i < n; i++) text.append(whole ? RULES[random(RULES.length)] : PIECES[random(PIECES.length)]);
        if (random(3) == 0) text.insert(random(text.length() + 1), PIECES[random(PIECES.length)]);
        int fault = p.grammar(text.toString());
        within("grammar", fault, -10, 24);
        within("place", p.judge.place(), fault < 0 ? 0 : -1, fault < 0 ? 3000 : -1);
    }

    private static void item(Probe p) {
        StringBuilder bytes = new StringBuilder();
        int n = random(30);
        int[] heads = {0x80, 0x81, 0x82, 0xa0, 0xa1, 0xa2, 0x9f, 0xbf, 0xff, 0x41, 0x61, 0x5f, 0xc1, 0x00, 0x01, 0x02, 0x20, 0xf4, 0xf9, 0x43};
        for (int i = 0; i < n; i++) bytes.append((char) (random(4) == 0 ? random(256) : heads[random(heads.length)]));
        p.tape(bytes.toString());
        within("item", p.judge.item(), -3002, 200);
    }

    /** 512 calls of the dearest kinds, with the greatest of what they can be given. */
    private static void limitsOfCalls() {
        Probe p = new Probe();
        StringBuilder rules = new StringBuilder();
        for (int i = 0; i < 23; i++) rules.append("r").append(i).append(" = [* r").append(i + 1).append("] / [* r0]\n");
        rules.append("r23 = int / [* r0]");
        String deep = Probe.times("82", 7) + Probe.times("80", 7) + "820083010203";
        for (int i = 0; i < 40; i++) {
            within("grammar", p.grammar(rules.toString()), 24, 24);
            within("item", p.item(deep), 1, 200);
            within("judge", p.judge.judge(0, 0), 0, 1);
            within("write", p.judge.write(0), 1, 4000);
            within("shorten", p.judge.shorten(0), 1, 3000);
        }
    }
}
