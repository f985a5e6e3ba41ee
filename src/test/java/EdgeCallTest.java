/** The public face and the promises 1 to 12, sentence by sentence: each call at the edges that they name, and on both sides of them. */
public final class EdgeCallTest {
    private static final int[] FAR = {-1, -2, -3, -5, -6, Integer.MIN_VALUE, Integer.MAX_VALUE, 1000, 100000};
    private static final int BLANKS = 0x20202020;

    public static void main(String[] args) {
        theFace();
        newObject();
        fed();
        fullTape();
        ended();
        takenAsRules();
        takenAsItem();
        rulesThatWereThere();
        placeOfTheLatest();
        namesOfRules();
        kindsOfRules();
        choicesOfRules();
        noSuchRule();
        itemsAreHowMany();
        itemThatWasThere();
        nodes();
        nodeNumbers();
        nodeBytes();
        noSuchNode();
        judged();
        notJudged();
        writtenNumbers();
        writtenStrings();
        writtenLists();
        writtenSevens();
        writtenWithoutLength();
        writtenTooLong();
        notWritten();
        shortNumbers();
        shortLengths();
        sortedKeys();
        sameKeys();
        notShortened();
        outBytes();
        manyCalls();
        Probe.finish();
    }

    private static void theFace() {
        Probe.sentence("public static final int NONE = -1;");
        Probe.due("NONE", ItemJudge.NONE, -1);
    }

    private static void newObject() {
        Probe.sentence("`ItemJudge()`: No RULES, no ITEM; THE TAPE and OUT are empty, place() is NONE.");
        Probe.due("place", new ItemJudge().place(), -1);
        for (int k : new int[] {0, 1, -1, 39, -39, 40}) {
            ItemJudge x = new ItemJudge();
            for (int i = -5; i < 3; i++) Probe.due("rule", x.rule(k, i), -1);
            for (int what = -1; what < 8; what++) Probe.due("node", x.node(k, what), -1);
            Probe.due("judge", x.judge(k, 0), -1);
            Probe.due("judge", x.judge(0, k), -1);
            Probe.due("write", x.write(k), -1);
            Probe.due("shorten", x.shorten(k), -1);
            Probe.due("out", x.out(k), -1);
            Probe.due("end", x.end(k), -1);
        }
        Probe.due("end of an empty tape", new ItemJudge().end(0), -1);
        Probe.due("first feed", new ItemJudge().feed(1, 2, 3, 4, 5), 20);
        Probe.due("an empty tape as RULES", new ItemJudge().grammar(), 0);
        Probe.due("an empty tape as an ITEM", new ItemJudge().item(), -2);
        // One object's state is none of another one's.
        Probe p = new Probe();
        p.says("a = 1").so("01");
        Probe.due("another one's judge", new ItemJudge().judge(0, 0), -1);
        Probe.due("its own", p.judge.judge(0, 0), 1);
    }

    private static void fed() {
        Probe.sentence("`int feed(int a, int b, int c, int d, int e)`: Twenty bytes come to the tape, the first number's highest one first: how many it has.");
        Probe p = new Probe();
        p.tape(Probe.fromHex("58271112131415161718191a1b1c1d1e1f202122"));
        Probe.due("feed", p.judge.feed(0x23242526, 0xff80007f, 0x00000001, 0x80000000, -1), 40);
        Probe.due("end", p.judge.end(20), 40);
        Probe.due("no item", p.judge.item(), -2 - 40);
        p.tape(Probe.fromHex("58261112131415161718191a1b1c1d1e1f202122"));
        p.judge.feed(0x23242526, 0xff80007f, 0x00000001, 0x80000000, -1);
        Probe.due("item", p.judge.item(), 1);
        int[] due = {0x11, 0x12, 0x13, 0x14, 0x15, 0x16, 0x17, 0x18, 0x19, 0x1a, 0x1b, 0x1c, 0x1d, 0x1e, 0x1f, 0x20, 0x21, 0x22, 0x23, 0x24, 0x25, 0x26, 0xff, 0x80, 0, 0x7f, 0, 0, 0, 1,
            0x80, 0, 0, 0, 0xff, 0xff, 0xff, 0xff};
        for (int i = 0; i < due.length; i++) Probe.due("byte " + i, p.judge.node(0, 6 + i), due[i]);
        for (int i = 1; i <= 150; i++) Probe.due("feed " + i, p.judge.feed(-1, -1, -1, -1, -1), 20 * i);
    }

    private static void fullTape() {
        Probe.sentence("THE TAPE has bytes, 3000 at most.");
        Probe p = new Probe();
        p.rules(Probe.times(" ", 2995) + "a = 1", 1);
        p.rules("a=\"" + Probe.times("x", 2996) + "\"", 1);
        Probe.due("size of the longest tape", p.item("590bb5" + Probe.times("cd", 2997)), 1);
        Probe.sentence("NONE (none comes): it would have more than 3000.");
        ItemJudge x = new ItemJudge();
        for (int i = 1; i <= 149; i++) x.feed(BLANKS, BLANKS, BLANKS, BLANKS, BLANKS);
        Probe.due("to 3000", x.feed(BLANKS, BLANKS, BLANKS, BLANKS, BLANKS), 3000);
        Probe.due("beyond", x.feed(0, 0, 0, 0, 0), -1);
        Probe.due("beyond again", x.feed(0, 0, 0, 0, 0), -1);
        Probe.due("none came", x.end(20), 3000);
        Probe.due("less one", x.end(19), 2999);
        Probe.due("beyond from 2999", x.feed(0, 0, 0, 0, 0), -1);
        Probe.due("none came", x.grammar(), 0);
        for (int i = 1; i <= 149; i++) x.feed(BLANKS, BLANKS, BLANKS, BLANKS, BLANKS);
        Probe.due("2980", x.end(20), 2980);
        Probe.due("2961", x.end(1), 2961);
        Probe.due("2981", x.feed(BLANKS, BLANKS, BLANKS, BLANKS, BLANKS), 2981);
        Probe.due("beyond from 2981", x.feed(0, 0, 0, 0, 0), -1);
        Probe.due("2980", x.end(19), 2980);
        Probe.due("from 2980 to 3000", x.feed(BLANKS, BLANKS, BLANKS, BLANKS, 0x20202061), 3000);
        Probe.due("the last byte is a letter", x.grammar(), -1);
        Probe.due("at the text's length", x.place(), 3000);
        Probe.due("empty then", x.feed(0, 0, 0, 0, 0), 20);
        // 3000 bytes as an ITEM.
        p.items("590bb5" + Probe.times("cd", 2997), 1);
        Probe.due("last byte", p.judge.node(0, 6 + 2996), 0xcd);
        Probe.due("behind it", p.judge.node(0, 6 + 2997), -1);
        p.items("590ba2" + Probe.times("cd", 2978), 1);
    }

    private static void ended() {
        Probe.sentence("`int end(int n)`: Of the last 20 bytes only the first n stay: how many it has. NONE: n is not 0 .. 20, or there are not 20.");
        for (int n = 0; n <= 20; n++) {
            ItemJudge x = new ItemJudge();
            x.feed(1, 2, 3, 4, 5);
            Probe.due("end(" + n + ")", x.end(n), n);
            Probe.due("again with " + n, x.end(0), n == 20 ? 0 : -1);
            Probe.due("feed", x.feed(1, 2, 3, 4, 5), (n == 20 ? 0 : n) + 20);
            Probe.due("end(" + n + ") with more", x.end(n), (n == 20 ? 0 : n) + n);
        }
        ItemJudge y = new ItemJudge();
        y.feed(1, 2, 3, 4, 5);
        for (int n : new int[] {-1, 21, -20, 40, Integer.MIN_VALUE, Integer.MAX_VALUE}) Probe.due("end(" + n + ")", y.end(n), -1);
        Probe.due("all stay", y.end(20), 20);
        Probe.due("one less", y.end(19), 19);
        for (int n = -1; n <= 21; n++) Probe.due("end(" + n + ") with 19", y.end(n), -1);
        y.feed(1, 2, 3, 4, 5);
        Probe.due("39 less 19", y.end(1), 20);
        Probe.due("20 less 1", y.end(19), 19);
        // The first n of the last 20.
        Probe p = new Probe();
        p.judge.feed(0x44010203, 0x04050607, 0, 0, 0);
        p.judge.end(5);
        Probe.due("item", p.judge.item(), 1);
        Probe.due("last byte", p.judge.node(0, 9), 4);
        Probe.due("behind it", p.judge.node(0, 10), -1);
    }

    private static void takenAsRules() {
        Probe.sentence("grammar() takes it as RULES, item() as an ITEM, and it is empty then.");
        Probe p = new Probe();
        p.rules("a = 1", 1);
        Probe.due("empty behind RULES", p.judge.feed(BLANKS, BLANKS, BLANKS, BLANKS, BLANKS), 20);
        Probe.due("blanks", p.judge.grammar(), 0);
        p.fault("a = ", 1, 4);
        Probe.due("empty behind a FAULT", p.judge.grammar(), 0);
        p.fault("a = b", 4, 4);
        Probe.due("empty behind a FAULT", p.judge.feed(0, 0, 0, 0, 0), 20);
        p.judge.end(0);
        p.items("01", 1);
        Probe.due("empty behind an ITEM", p.judge.item(), -2);
        p.illFormed("0101", 1);
        Probe.due("empty behind no ITEM", p.judge.feed(0, 0, 0, 0, 0), 20);
        // What none of the two takes, stays.
        p.judge.end(20);
        p.judge.rule(0, 0);
        p.judge.node(0, 0);
        p.judge.judge(0, 0);
        p.judge.write(0);
        p.judge.shorten(0);
        p.judge.out(0);
        p.judge.place();
        Probe.due("20 bytes stay", p.judge.end(20), 20);
    }

    private static void takenAsItem() {
        Probe.sentence("`int grammar()`: The tape is RULES: how many; less its FAULT (-1 .. -10; the RULES that were there stay).");
        Probe p = new Probe();
        p.rules("", 0);
        p.rules("a = 1", 1);
        p.rules("a = 1 b = 2", 2);
        p.rules("a = 1 a /= 2", 1);
        String[] faults = {"a", "a = 1 a = 1", "a<b, c, d, e, f, g, h, i, j> = 1", "a = b", "a = a<1>", "a = &int", "a = 1.5", "a = 1 .no 1", "a = a", "a = [" + Probe.times("1 ", 101) + "]"};
        for (int i = 0; i < 10; i++) Probe.due(faults[i], p.grammar(faults[i]), -1 - i);
    }

    private static void rulesThatWereThere() {
        Probe.sentence("(-1 .. -10; the RULES that were there stay)");
        String[] faults = {"b", "b = 1 b = 1", "b<b, c, d, e, f, g, h, i, j> = 1", "b = c", "b = b<1>", "b = &int", "b = 1.5", "b = 1 .no 1", "b = b", "b = [" + Probe.times("1 ", 101) + "]"};
        for (int i = 0; i < 10; i++) {
            Probe p = new Probe();
            p.rules("xy = 7 / [zz<1>] zz<p> = (p, 8)", 2);
            for (int time = 0; time < 3; time++) {
                Probe.due(faults[i], p.grammar(faults[i]), -1 - i);
                Probe.due("size of the NAME", p.judge.rule(0, -1), 2);
                Probe.due("its byte", p.judge.rule(0, 1), 'y');
                Probe.due("its choices", p.judge.rule(0, -4), 2);
                Probe.due("parameters", p.judge.rule(1, -2), 1);
                Probe.due("kind", p.judge.rule(1, -3), 1);
                Probe.due("no rule", p.judge.rule(2, -1), -1);
                p.so("07", "820108").notSo("08", "820208");
            }
            p.rules("b = 2", 1);
            Probe.due("new NAME", p.judge.rule(0, 0), 'b');
            Probe.due("no rule", p.judge.rule(1, -1), -1);
            p.so("02").notSo("07");
        }
        Probe p = new Probe();
        p.fault("a", 1, 1);
        Probe.due("no RULES were there", p.judge.rule(0, -1), -1);
        p.rules("a = 1", 1);
        p.rules("", 0);
        Probe.due("RULES of none", p.judge.rule(0, -1), -1);
    }

    private static void placeOfTheLatest() {
        Probe.sentence("`int place()`: The place of the FAULT of the latest grammar(); NONE.");
        Probe p = new Probe();
        Probe.due("before all", p.judge.place(), -1);
        p.fault("%", 1, 0);
        Probe.due("asked again", p.judge.place(), 0);
        p.item("01");
        p.item("ff");
        Probe.due("an item makes no difference", p.judge.place(), 0);
        p.fault("a = bcd", 4, 4);
        p.fault(Probe.times(" ", 2999) + "a", 1, 3000);
        p.rules("a = 1", 1);
        Probe.due("no FAULT", p.judge.place(), -1);
        p.fault("a", 1, 1);
        p.rules("", 0);
    }

    private static void namesOfRules() {
        Probe.sentence("`int rule(int k, int i)`: Byte i of rule k's NAME; i = -1: how many; -2: how many parameters;");
        Probe p = new Probe();
        String name = "$_@aZ09-.z" + Probe.times("q", 22);
        p.rules("a = 1 " + name + "<p1, p2, p3, p4, p5, p6, p7, p8> = 2 b<p> = 3", 3);
        String[] names = {"a", name, "b"};
        int[] params = {0, 8, 1};
        for (int k = 0; k < 3; k++) {
            Probe.due("size", p.judge.rule(k, -1), names[k].length());
            for (int i = 0; i < names[k].length(); i++) Probe.due("byte " + i, p.judge.rule(k, i), names[k].charAt(i));
            Probe.due("behind the last byte", p.judge.rule(k, names[k].length()), -1);
            Probe.due("parameters", p.judge.rule(k, -2), params[k]);
        }
    }

    private static void kindsOfRules() {
        Probe.sentence("-3: 0 a TYPE, 1 a GROUP;");
        Probe p = new Probe();
        p.says("a = 1 b = (1, 2) c = b d //= 1 e /= 1 f<p> = (p, 1) g = f<1> h = [1] $$i /= 1");
        int[] due = {0, 1, 1, 1, 0, 1, 1, 0, 0};
        for (int k = 0; k < 9; k++) Probe.due("kind of rule " + k, p.judge.rule(k, -3), due[k]);
    }

    private static void choicesOfRules() {
        Probe.sentence("-4: how many choices it has (of types; of groups: an entry that is just ( group ), without OCCUR, has its own, others one).");
        String[] texts = {"a = 1", "a = 1 / 2", "a = 1 / 2 / 3", "a = 1 a /= 2 / 3", "a /= 1 / 2 a = 3 a /= 4 / 5", "a = (1 / 2)", "a = (1 / 2) / 3", "a = b b = 1 / 2", "a<p> = p / 1",
            "a = (1, 2)", "a = (1, 2 // 3)", "a = (1 // 2 // 3, 4)", "a = (//)", "a = ()", "a = (1, 2 // 3) a //= (4 // 5, 6)", "a = ? (1 // 2, 3)", "a = 1*1 (1 // 2, 3)", "a = * 1", "a = x: 1 / 2",
            "a = 1 => 2 / 3", "a //= 1 / 2", "a //= 1 a //= 2", "a //= (1)", "a //= (1 // 2)", "a //= ((1 // 2))", "a //= ((1 // 2), 3 // 4)", "a = b b = (1 // 2)", "a = (b) b = (1 // 2)",
            "a //= b b = (1 // 2)", "a = (b // 1) b = (1 // 2)", "a = b a /= b b = (1 // 2)", "a = ((1, 2) // 3)", "a = ~b a2 = 1 b = #6(1 / 2)", "a = [1 // 2]", "a = &(1 // 2)"};
        int[] due = {1, 2, 3, 3, 5, 1, 2, 1, 2, 1, 2, 3, 2, 1, 4, 1, 1, 1, 1, 1, 1, 2, 1, 2, 1, 2, 1, 1, 1, 2, 2, 2, 1, 1, 1};
        for (int i = 0; i < texts.length; i++) {
            Probe p = new Probe();
            p.says(texts[i]);
            Probe.due("choices of " + texts[i], p.judge.rule(0, -4), due[i]);
        }
        Probe p = new Probe();
        p.says("a = 1" + Probe.times(" / 1", 148));
        Probe.due("149 choices", p.judge.rule(0, -4), 149);
    }

    private static void noSuchRule() {
        Probe.sentence("NONE when there is none such.");
        Probe p = new Probe();
        p.rules("a = 1 bcd = 2", 2);
        for (int k : new int[] {-1, 2, 3, 24, 38, 40, -39, -40, Integer.MIN_VALUE, Integer.MAX_VALUE}) {
            for (int i = -5; i < 3; i++) Probe.due("rule(" + k + ", " + i + ")", p.judge.rule(k, i), -1);
        }
        for (int k = 0; k < 2; k++) {
            for (int i : new int[] {-5, -6, Integer.MIN_VALUE, 3, 4, 32, Integer.MAX_VALUE}) Probe.due("rule(" + k + ", " + i + ")", p.judge.rule(k, i), -1);
        }
        Probe.due("rule(0, 1)", p.judge.rule(0, 1), -1);
        Probe.due("rule(1, 2)", p.judge.rule(1, 2), 'd');
    }

    private static void itemsAreHowMany() {
        Probe.sentence("`int item()`: The tape is an ITEM: how many items; - 2 less the place of the first byte at which it cannot be WELL-FORMED (its length, if it ends too early);");
        Probe p = new Probe();
        p.items("00", 1);
        p.items("8100", 2);
        p.items("81b863" + Probe.times("0000", 99), 200);
        p.illFormed("", 0);
        p.illFormed("ff", 0);
        p.illFormed("82ff", 1);
        p.illFormed("0000", 1);
        p.illFormed("82", 1);
        p.illFormed("00" + Probe.times("00", 2999), 1);
        p.illFormed("590bb6" + Probe.times("00", 2997), 3000);
        p.illFormed("5f" + Probe.times("40", 2998) + "41", 3000);
    }

    private static void itemThatWasThere() {
        Probe.sentence("the ITEM that was there stays then.");
        Probe p = new Probe();
        p.says("a = [5, 5]");
        p.illFormed("ff", 0);
        Probe.due("no ITEM was there", p.judge.node(0, 0), -1);
        p.items("820505", 3);
        for (String none : new String[] {"", "ff", "8205", "82050500", "9865", Probe.times("81", 10) + "80", "5f4100", "82064100ff", "5f4101420203"}) {
            Probe.due("none", p.item(none) < 0 ? 1 : 0, 1);
            Probe.due("major", p.judge.node(0, 0), 4);
            Probe.due("number of item 2", p.judge.node(2, 1), 5);
            Probe.due("no item 3", p.judge.node(3, 0), -1);
            Probe.due("judged", p.judge.judge(0, 0), 1);
            Probe.due("written", p.judge.write(0), 6);
            Probe.due("text", p.out(), "[5, 5]");
            Probe.due("shortened", p.judge.shorten(0), 3);
        }
        p.items("815f4105ff", 2);
        p.illFormed("815f410642", 5);
        Probe.due("bytes of parts", p.judge.node(1, 6), 5);
        p.items("06", 1);
        Probe.due("no item 1", p.judge.node(1, 0), -1);
        Probe.due("judged", p.judge.judge(0, 0), 0);
        // RULES make no difference to the ITEM.
        p.says("a = 6");
        Probe.due("judged", p.judge.judge(0, 0), 1);
    }

    private static void node(Probe p, int k, long... due) {
        for (int what = 0; what < due.length; what++) Probe.due("node(" + k + ", " + what + ")", p.judge.node(k, what), due[what]);
    }

    private static void nodes() {
        Probe.sentence("Of item k: what = 0 its major, 1 its number (major 0, 1, 6; how many bytes, items or pairs of 2 to 5; of 7 the simple value, a float's bits)");
        Probe p = new Probe();
        p.items("8805244201026161820607a10809c700f4", 14);
        node(p, 0, 4, 8, 0, 0, 17, -1, -1);
        node(p, 1, 0, 5, 0, 1, 2, 0, -1);
        node(p, 2, 1, 4, 0, 2, 3, 0, -1);
        node(p, 3, 2, 2, 0, 3, 6, 0, 1, 2, -1);
        node(p, 4, 3, 1, 0, 6, 8, 0, 0x61, -1);
        node(p, 5, 4, 2, 0, 8, 11, 0, -1);
        node(p, 6, 0, 6, 0, 9, 10, 5, -1);
        node(p, 7, 0, 7, 0, 10, 11, 5, -1);
        node(p, 8, 5, 1, 0, 11, 14, 0, -1);
        node(p, 9, 0, 8, 0, 12, 13, 8, -1);
        node(p, 10, 0, 9, 0, 13, 14, 8, -1);
        node(p, 11, 6, 7, 0, 14, 16, 0, -1);
        node(p, 12, 0, 0, 0, 15, 16, 11, -1);
        node(p, 13, 7, 20, 0, 16, 17, 0, -1);
        node(p, 14, -1, -1, -1, -1, -1, -1, -1);
    }

    private static void nodeNumbers() {
        Probe.sentence("2 how many bytes its number has (0, 1, 2, 4, 8; 31 without length), 3 the place of its first byte, 4 the one behind it, 5 the item in which it is (NONE)");
        Probe p = new Probe();
        String[] hexes = {"17", "1818", "1817", "1900ff", "1a0000ffff", "1b00000000ffffffff", "f3", "f820", "f90001", "fa00000001", "fb0000000000000001", "37", "3b8000000000000000", "40", "5800",
            "590000", "5a00000000", "5b0000000000000000", "5fff", "60", "7800", "7fff", "80", "9800", "9b0000000000000000", "9fff", "a0", "b800", "bfff"};
        int[] widths = {0, 1, 1, 2, 4, 8, 0, 1, 2, 4, 8, 0, 8, 0, 1, 2, 4, 8, 31, 0, 1, 31, 0, 1, 8, 31, 0, 1, 31};
        for (int i = 0; i < hexes.length; i++) {
            p.items(hexes[i], 1);
            Probe.due("width of " + hexes[i], p.judge.node(0, 2), widths[i]);
            Probe.due("first byte of " + hexes[i], p.judge.node(0, 3), 0);
            Probe.due("behind " + hexes[i], p.judge.node(0, 4), hexes[i].length() / 2);
            Probe.due("item around " + hexes[i], p.judge.node(0, 5), -1);
        }
        p.items("9f5f4101ffbf0001ffff", 5);
        node(p, 0, 4, 2, 31, 0, 10, -1);
        node(p, 1, 2, 1, 31, 1, 5, 0, 1, -1);
        node(p, 2, 5, 1, 31, 5, 9, 0);
        node(p, 3, 0, 0, 0, 6, 7, 2);
        node(p, 4, 0, 1, 0, 7, 8, 2);
        Probe.sentence("(numbers as longs, also beyond 2^63, as bits)");
        String[] numbers = {"1b7fffffffffffffff", "1b8000000000000000", "1bffffffffffffffff", "3bffffffffffffffff", "3b7fffffffffffffff", "db800000000000000000", "fbffffffffffffffff", "fb8000000000000000"};
        long[] due = {Long.MAX_VALUE, Long.MIN_VALUE, -1, -1, Long.MAX_VALUE, Long.MIN_VALUE, -1, Long.MIN_VALUE};
        for (int i = 0; i < numbers.length; i++) {
            p.item(numbers[i]);
            Probe.due("number of " + numbers[i], p.judge.node(0, 1), due[i]);
        }
    }

    private static void nodeBytes() {
        Probe.sentence("6 + i byte i of bytes or text.");
        Probe p = new Probe();
        for (String hex : new String[] {"43007fff", "63007fff", "5f4100427fffff", "7f61006060627fffff", "5803007fff"}) {
            p.items(hex, 1);
            int[] due = {0, 127, 255};
            Probe.due("how many", p.judge.node(0, 1), 3);
            for (int i = 0; i < 3; i++) Probe.due("byte " + i + " of " + hex, p.judge.node(0, 6 + i), due[i]);
            Probe.due("byte 3", p.judge.node(0, 9), -1);
            Probe.due("byte far", p.judge.node(0, Integer.MAX_VALUE), -1);
        }
        for (String hex : new String[] {"40", "60", "5fff", "7f60ff"}) {
            p.items(hex, 1);
            Probe.due("byte of none", p.judge.node(0, 6), -1);
        }
        for (String hex : new String[] {"05", "25", "8105", "a10505", "c105", "f4", "fb0000000000000000"}) {
            p.item(hex);
            for (int i = 6; i < 10; i++) Probe.due("byte of " + hex, p.judge.node(0, i), -1);
        }
    }

    private static void noSuchNode() {
        Probe.sentence("NONE when there is none such (numbers as longs, also beyond 2^63, as bits).");
        Probe p = new Probe();
        p.items("820102", 3);
        for (int k : new int[] {-1, 3, 4, 199, 200, 255, 256, 257, Integer.MIN_VALUE, Integer.MAX_VALUE}) {
            for (int what = -1; what < 8; what++) Probe.due("node(" + k + ", " + what + ")", p.judge.node(k, what), -1);
        }
        for (int what : new int[] {-1, -2, 6, 7, Integer.MIN_VALUE, Integer.MAX_VALUE}) Probe.due("node(0, " + what + ")", p.judge.node(0, what), -1);
        Probe.due("node(2, 1)", p.judge.node(2, 1), 2);
        // What bytes hold are no items of the ITEM.
        p.says("a = # .cbor [* #]").so("43820102");
        Probe.due("node(1, 0)", p.judge.node(1, 0), -1);
        for (int k = 255; k < 265; k++) Probe.due("node(" + k + ", 0)", p.judge.node(k, 0), -1);
    }

    private static void judged() {
        Probe.sentence("`int judge(int k, int n)`: Whether item n is as rule k says: 1 or 0.");
        Probe p = new Probe();
        p.says("a = int b = tstr c = [* int]");
        p.items("83056161820607", 6);
        int[][] due = {{0, 1, 0, 0, 1, 1}, {0, 0, 1, 0, 0, 0}, {0, 0, 0, 1, 0, 0}};
        for (int time = 0; time < 2; time++) {
            for (int k = 0; k < 3; k++) {
                for (int n = 0; n < 6; n++) Probe.due("judge(" + k + ", " + n + ")", p.judge.judge(k, n), due[k][n]);
            }
        }
        p.items("81b863" + Probe.times("0005", 99), 200);
        Probe.due("the last item", p.judge.judge(0, 199), 1);
        Probe.due("behind it", p.judge.judge(0, 200), -1);
        // Each time as the RULES and the ITEM of then say.
        String[] texts = {"a = [b] b = 5", "a = [b] b = 6", "a = [c] c = 5", "a = [b] b = # .bits (0 / 2)", "a = [b] b = # .bits (1 / 2)"};
        int[][] dues = {{1, 0}, {0, 1}, {1, 0}, {1, 0}, {0, 1}};
        String[] hexes = {"8105", "8106"};
        for (int i = 0; i < 2; i++) {
            p.items(hexes[i], 2);
            for (int k = 0; k < 5; k++) {
                p.says(texts[k]);
                Probe.due(hexes[i] + " as " + texts[k], p.judge.judge(0, 0), dues[k][i]);
            }
        }
        for (int k = 0; k < 5; k++) {
            p.says(texts[k]);
            for (int i = 0; i < 2; i++) p.is(hexes[i], dues[k][i]);
        }
    }

    private static void notJudged() {
        Probe.sentence("NONE: there is none such, the rule is a GROUP or has parameters.");
        Probe p = new Probe();
        p.says("a = 1 b = (1, 2) c<p> = 1 d = b e<p> = (p, 1) f //= 1 g = [1] h = c<1> i = $x");
        Probe.due("no ITEM", p.judge.judge(0, 0), -1);
        p.item("8101");
        int[] due = {0, -1, -1, -1, -1, -1, 1, 0, 0};
        for (int k = 0; k < 9; k++) Probe.due("judge(" + k + ", 0)", p.judge.judge(k, 0), due[k]);
        for (int k : new int[] {-1, 9, 10, 24, 40, -40, Integer.MIN_VALUE, Integer.MAX_VALUE}) Probe.due("judge(" + k + ", 0)", p.judge.judge(k, 0), -1);
        for (int n : new int[] {-1, 2, 3, 200, 256, 257, 258, Integer.MIN_VALUE, Integer.MAX_VALUE}) Probe.due("judge(0, " + n + ")", p.judge.judge(0, n), -1);
        Probe.due("judge(0, 1)", p.judge.judge(0, 1), 1);
        p.rules("", 0);
        Probe.due("no RULES", p.judge.judge(0, 0), -1);
    }

    private static void written(String hex, String text) {
        Probe p = new Probe();
        p.item(hex);
        Probe.due("write of " + hex, p.judge.write(0), text.length());
        Probe.due("text of " + hex, p.out(), text);
        Probe.due("behind the text of " + hex, p.judge.out(text.length()), -1);
    }

    private static void writtenNumbers() {
        Probe.sentence("`int write(int n)`: Item n as a text comes into OUT: numbers of base 10;");
        for (int n : new int[] {0, 1, 9, 10, 11, 23}) {
            written(String.format("%02x", n), "" + n);
            written(String.format("%02x", 0x20 + n), "" + (-1 - n));
        }
        long[] numbers = {24, 99, 100, 101, 255, 256, 999, 1000, 65535, 65536, 4294967295L, 4294967296L, 999999999999999999L, 1000000000000000000L, Long.MAX_VALUE};
        for (long n : numbers) {
            written(String.format("1b%016x", n), "" + n);
            written(String.format("3b%016x", n - 1), "-" + n);
            written(String.format("db%016x00", n), n + "(0)");
        }
        written("1b8000000000000000", "9223372036854775808");
        written("1b8ac7230489e7ffff", "9999999999999999999");
        written("1b8ac7230489e80000", "10000000000000000000");
        written("1bffffffffffffffff", "18446744073709551615");
        written("3b7fffffffffffffff", "-9223372036854775808");
        written("3b8000000000000000", "-9223372036854775809");
        written("3bfffffffffffffffe", "-18446744073709551615");
        written("3bffffffffffffffff", "-18446744073709551616");
        written("dbffffffffffffffff00", "18446744073709551615(0)");
        written("1b0000000000000000", "0");
        written("3b0000000000000000", "-1");
    }

    private static void writtenStrings() {
        Probe.sentence("bytes h'..' with small letters (as all digits of base 16 here); text \"..\", with \\ in front of \" and \\ , bytes that are not 32 .. 126 as \\x and two digits;");
        written("40", "h''");
        written("60", "\"\"");
        for (int c = 0; c < 256; c++) {
            String hex = String.format("%02x", c);
            written("41" + hex, "h'" + hex + "'");
            String sign = c < 32 || c > 126 ? "\\x" + hex : c == '"' ? "\\\"" : c == '\\' ? "\\\\" : "" + (char) c;
            written("61" + hex, "\"" + sign + "\"");
            written("63" + hex + "61" + hex, "\"" + sign + "a" + sign + "\"");
        }
        written("43abcdef", "h'abcdef'");
        written("5803abcdef", "h'abcdef'");
    }

    private static void writtenLists() {
        Probe.sentence("[a, b], {k: v, l: w}, n(item);");
        written("80", "[]");
        written("8101", "[1]");
        written("820102", "[1, 2]");
        written("83010203", "[1, 2, 3]");
        written("9864" + Probe.times("00", 100), "[0" + Probe.times(", 0", 99) + "]");
        written("a0", "{}");
        written("a10102", "{1: 2}");
        written("a201020304", "{1: 2, 3: 4}");
        written("b863" + Probe.times("0001", 99), "{0: 1" + Probe.times(", 0: 1", 98) + "}");
        written("a203040102", "{3: 4, 1: 2}");
        written("c001", "0(1)");
        written("d81801", "24(1)");
        written("c1c2c303", "1(2(3(3)))");
        written(Probe.times("81", 9) + "80", Probe.times("[", 10) + Probe.times("]", 10));
        written(Probe.times("c1", 9) + "00", Probe.times("1(", 9) + "0" + Probe.times(")", 9));
        written(Probe.times("a100", 9) + "60", Probe.times("{0: ", 9) + "\"\"" + Probe.times("}", 9));
        written("a18001", "{[]: 1}");
        written("a1a10102a0", "{{1: 2}: {}}");
    }

    private static void writtenSevens() {
        Probe.sentence("false true null undefined, simple(n), floats as float16(0x..), float32, float64 with all their digits;");
        for (int n = 0; n < 24; n++) written(String.format("%02x", 0xe0 + n), n == 20 ? "false" : n == 21 ? "true" : n == 22 ? "null" : n == 23 ? "undefined" : "simple(" + n + ")");
        for (int n = 32; n < 256; n++) written(String.format("f8%02x", n), "simple(" + n + ")");
        written("f90000", "float16(0x0000)");
        written("f9000a", "float16(0x000a)");
        written("f9ffff", "float16(0xffff)");
        written("fa00000000", "float32(0x00000000)");
        written("fa00abcdef", "float32(0x00abcdef)");
        written("faffffffff", "float32(0xffffffff)");
        written("fb0000000000000000", "float64(0x0000000000000000)");
        written("fb0123456789abcdef", "float64(0x0123456789abcdef)");
        written("fbffffffffffffffff", "float64(0xffffffffffffffff)");
    }

    private static void writtenWithoutLength() {
        Probe.sentence("those without length as others, but _ and a blank behind [ or {, and (_ part, part) with their parts for bytes and text ((_ ) of none).");
        written("9fff", "[_ ]");
        written("9f01ff", "[_ 1]");
        written("9f0102ff", "[_ 1, 2]");
        written("bfff", "{_ }");
        written("bf0102ff", "{_ 1: 2}");
        written("bf01020304ff", "{_ 1: 2, 3: 4}");
        written("5fff", "(_ )");
        written("7fff", "(_ )");
        written("5f40ff", "(_ h'')");
        written("5f4101ff", "(_ h'01')");
        written("5f41014202abff", "(_ h'01', h'02ab')");
        written("7f60ff", "(_ \"\")");
        written("7f616161ffff", "(_ \"a\", \"\\xff\")");
        written("5f580101590001025a00000001035b000000000000000104ff", "(_ h'01', h'02', h'03', h'04')");
        written("5f5818" + Probe.times("aa", 24) + "40ff", "(_ h'" + Probe.times("aa", 24) + "', h'')");
        written("9f9fff5fff80ff", "[_ [_ ], (_ ), []]");
        written("5f" + Probe.times("40", 799) + "ff", "(_ h''" + Probe.times(", h''", 798) + ")");
    }

    private static void writtenTooLong() {
        Probe.sentence("How many bytes. NONE: there is none such, or it would have more than 4000 (OUT stays).");
        // 2 + 5 of [ , ], 3 of h'' and two for each byte; then the second item's.
        for (int more = 1; more <= 6; more++) {
            String second = Probe.times("9", more);
            String number = String.format("1b%016x", Long.parseLong(second));
            Probe p = new Probe();
            p.item("00");
            p.judge.write(0);
            p.item("825907cb" + Probe.times("ab", 1995) + number);
            int due = 1 + 3 + 2 * 1995 + 2 + more + 1;
            Probe.due("a text of " + due, p.judge.write(0), due > 4000 ? -1 : due);
            Probe.due("OUT", p.out().length(), due > 4000 ? 1 : due);
            Probe.due("the second item", p.judge.write(2), more);
        }
        Probe p = new Probe();
        p.item("7903e6" + Probe.times("00", 998));
        Probe.due("998 times \\x00", p.judge.write(0), 2 + 4 * 998);
        p.item("7903e7" + Probe.times("00", 999));
        Probe.due("999 times \\x00", p.judge.write(0), 3998);
        p.item("7903e8" + Probe.times("00", 998) + "0041");
        Probe.due("999 times \\x00 and A", p.judge.write(0), 3999);
        p.item("7903e9" + Probe.times("00", 999) + "4142");
        Probe.due("999 times \\x00 and AB", p.judge.write(0), 4000);
        String out = p.out();
        p.item("7903ea" + Probe.times("00", 999) + "414243");
        Probe.due("999 times \\x00 and ABC", p.judge.write(0), -1);
        Probe.due("OUT stays", p.out(), out);
        p.item("7903e8" + Probe.times("00", 1000));
        Probe.due("1000 times \\x00", p.judge.write(0), -1);
        p.item("5907ce" + Probe.times("ab", 1998));
        Probe.due("1998 bytes", p.judge.write(0), 3999);
        p.item("5907cf" + Probe.times("ab", 1999));
        Probe.due("1999 bytes", p.judge.write(0), -1);
        Probe.due("OUT stays", p.out().length(), 3999);
        p.item("590bb5" + Probe.times("ab", 2997));
        Probe.due("2997 bytes", p.judge.write(0), -1);
        p.item("790bb5" + Probe.times("00", 2997));
        Probe.due("2997 times \\x00", p.judge.write(0), -1);
        p.item("5f" + Probe.times("40", 800) + "ff");
        Probe.due("800 parts", p.judge.write(0), -1);
        p.item("5f" + Probe.times("40", 2998) + "ff");
        Probe.due("2998 parts", p.judge.write(0), -1);
        Probe.due("OUT stays", p.out().length(), 3999);
    }

    private static void notWritten() {
        Probe.sentence("NONE: there is none such,");
        Probe p = new Probe();
        Probe.due("no ITEM", p.judge.write(0), -1);
        p.item("820102");
        Probe.due("item 2", p.judge.write(2), 1);
        for (int n : new int[] {-1, 3, 4, 200, 256, 257, Integer.MIN_VALUE, Integer.MAX_VALUE}) {
            Probe.due("write(" + n + ")", p.judge.write(n), -1);
            Probe.due("OUT stays", p.out(), "2");
        }
        Probe.due("item 1", p.judge.write(1), 1);
        Probe.due("OUT", p.out(), "1");
        Probe.due("item 0", p.judge.write(0), 6);
        Probe.due("OUT", p.out(), "[1, 2]");
        p.rules("a = 1", 1);
        p.illFormed("ff", 0);
        p.items("05", 1);
        Probe.due("OUT stays, whatever is read", p.out(), "[1, 2]");
    }

    private static void shortened(String hex, String shortest) {
        Probe p = new Probe();
        p.item(hex);
        Probe.due("shorten of " + hex, p.judge.shorten(0), shortest.length() / 2);
        Probe.due("shortest of " + hex, p.outHex(), shortest);
    }

    /** A head in each form that its number fits in, shortest first. */
    private static String[] heads(int major, long n) {
        String[] all = new String[5];
        all[0] = n >= 0 && n < 24 ? String.format("%02x", major << 5 | (int) n) : null;
        all[1] = n >= 0 && n < 256 ? String.format("%02x%02x", major << 5 | 24, n) : null;
        all[2] = n >= 0 && n < 65536 ? String.format("%02x%04x", major << 5 | 25, n) : null;
        all[3] = n >= 0 && n < 4294967296L ? String.format("%02x%08x", major << 5 | 26, n) : null;
        all[4] = String.format("%02x%016x", major << 5 | 27, n);
        return all;
    }

    private static void eachForm(int major, long n, String behind) {
        String shortest = null;
        for (String head : heads(major, n)) {
            if (head == null) continue;
            if (shortest == null) shortest = head;
            shortened(head + behind, shortest + behind);
        }
    }

    private static void shortNumbers() {
        Probe.sentence("`int shorten(int n)`: Item n in its shortest form comes into OUT: numbers as short as can be,");
        for (long n : new long[] {0, 1, 22, 23, 24, 25, 254, 255, 256, 257, 65534, 65535, 65536, 65537, 4294967294L, 4294967295L, 4294967296L, 4294967297L, Long.MAX_VALUE, Long.MIN_VALUE, -1}) {
            eachForm(0, n, "");
            eachForm(1, n, "");
            eachForm(6, n, "00");
        }
        Probe.sentence("floats as they are.");
        for (int n = 0; n < 256; n++) {
            if (n < 24) shortened(String.format("%02x", 0xe0 + n), String.format("%02x", 0xe0 + n));
            if (n > 31) shortened(String.format("f8%02x", n), String.format("f8%02x", n));
        }
        for (String hex : new String[] {"f90000", "f90017", "f97e00", "fa00000000", "fa00000017", "fa7fc00000", "fb0000000000000000", "fb0000000000000001", "fb3ff0000000000000", "fb7ff8000000000000"}) shortened(hex, hex);
        shortened("9ffb3ff0000000000000ff", "81fb3ff0000000000000");
    }

    private static void shortLengths() {
        Probe.sentence("numbers as short as can be, nothing without length,");
        for (int n : new int[] {0, 1, 22, 23, 24, 25, 254, 255, 256, 257}) {
            eachForm(2, n, Probe.times("ab", n));
            eachForm(3, n, Probe.times("ab", n));
            StringBuilder parts = new StringBuilder();
            for (int i = 0; i < n; i++) parts.append("41ab");
            shortened("5f" + parts + "ff", DearTest.held(Probe.times("ab", n)));
            if (n > 99) continue;
            eachForm(4, n, Probe.times("00", n));
            shortened("9f" + Probe.times("00", n) + "ff", heads(4, n)[n < 24 ? 0 : 1] + Probe.times("00", n));
            eachForm(5, n, Probe.times("0001", n));
            shortened("bf" + Probe.times("0001", n) + "ff", heads(5, n)[n < 24 ? 0 : 1] + Probe.times("0001", n));
        }
        eachForm(4, 100, Probe.times("00", 100));
        eachForm(2, 2900, Probe.times("ab", 2900));
        shortened(Probe.times("9f", 9) + "5fff" + Probe.times("ff", 9), Probe.times("81", 9) + "40");
        shortened(Probe.times("d801", 9) + "1800", Probe.times("c1", 9) + "00");
        shortened(Probe.times("bf1800", 9) + "7fff" + Probe.times("ff", 9), Probe.times("a100", 9) + "60");
        shortened("5fff", "40");
        shortened("7fff", "60");
        shortened("7f60616160ff", "6161");
        shortened("9f9f1800ffbf5f4101ff9fffffff", "828100a1410180");
        shortened("d800990001bfff", "c081a0");
    }

    private static void sortedKeys() {
        Probe.sentence("maps by their keys' bytes in this form (shorter ones before longer ones that begin so;");
        shortened("a202000100", "a201000200");
        shortened("a201000200", "a201000200");
        shortened("a3030001000200", "a3010002000300");
        shortened("a2180a000900", "a209000a00");
        shortened("a21818001700", "a21700181800");
        shortened("a2190100001b00000000000000ff00", "a218ff0019010000");
        shortened("a220001bffffffffffffffff00", "a21bffffffffffffffff002000");
        shortened("a260004000", "a240006000");
        shortened("a24100004000", "a24000410000");
        shortened("a241020042010000", "a241020042010000");
        shortened("a241ff00410000", "a241000041ff00");
        shortened("a2617f00618000", "a2617f00618000");
        shortened("a2618000617f00", "a2617f00618000");
        shortened("a282000100810000", "a281000082000100");
        shortened("a2f400c00000", "a2c00000f400");
        shortened("a2a10100008000", "a28000a1010000");
        shortened("a28202020082020100", "a28202010082020200");
        // By their bytes in this form, not as they stand.
        shortened("a21801000201", "a201000201");
        shortened("a29f02ff00810101", "a2810101810200");
        shortened("a25f4102ff0042010101", "a241020042010101");
        shortened("a2a20200010007a20101020008", "a2a20100020007a20101020008");
        // Within one another, and in keys.
        shortened("82a202000100a204000300", "82a201000200a203000400");
        shortened("a101a202000100", "a101a201000200");
        shortened("c1a202000100", "c1a201000200");
        shortened("bf02000100ff", "a201000200");
        StringBuilder down = new StringBuilder("b863");
        StringBuilder up = new StringBuilder("b863");
        for (int i = 0; i < 99; i++) {
            down.append(String.format("18%02x00", 200 - i));
            up.append(String.format("18%02x00", 102 + i));
        }
        shortened(down.toString(), up.toString());
        shortened(up.toString(), up.toString());
    }

    private static void sameKeys() {
        Probe.sentence("the same keys as they stand)");
        shortened("a201020101", "a201020101");
        shortened("a201010102", "a201010102");
        shortened("a3010200000101", "a3000001020101");
        shortened("a21801020101", "a201020101");
        shortened("a20102180101", "a201020101");
        shortened("a340035fff02580001", "a3400340024001");
        shortened("a40203010202010100", "a40102010002030201");
    }

    private static void notShortened() {
        Probe.sentence("How many bytes. NONE when there is none such.");
        Probe p = new Probe();
        Probe.due("no ITEM", p.judge.shorten(0), -1);
        p.item("8218010a");
        Probe.due("item 1", p.judge.shorten(1), 1);
        for (int n : new int[] {-1, 3, 4, 200, 256, 257, Integer.MIN_VALUE, Integer.MAX_VALUE}) {
            Probe.due("shorten(" + n + ")", p.judge.shorten(n), -1);
            Probe.due("OUT stays", p.outHex(), "01");
        }
        Probe.due("item 0", p.judge.shorten(0), 3);
        Probe.due("OUT", p.outHex(), "82010a");
        p.item("590bb5" + Probe.times("ab", 2997));
        Probe.due("3000 bytes", p.judge.shorten(0), 3000);
        Probe.due("OUT", p.outHex(), "590bb5" + Probe.times("ab", 2997));
        // Nothing of the ITEM changes.
        p.item("bf1802000100ff");
        p.judge.shorten(0);
        Probe.due("number of bytes of the first key's number", p.judge.node(1, 2), 1);
        Probe.due("first key", p.judge.node(1, 1), 2);
    }

    private static void outBytes() {
        Probe.sentence("`int out(int i)`: Byte i of OUT; NONE.");
        Probe p = new Probe();
        Probe.due("empty", p.judge.out(0), -1);
        p.item("4300ff80");
        p.judge.shorten(0);
        int[] due = {0x43, 0, 255, 128};
        for (int i = 0; i < 4; i++) Probe.due("byte " + i, p.judge.out(i), due[i]);
        for (int i : new int[] {-1, 4, 5, 3999, 4000, 4001, Integer.MIN_VALUE, Integer.MAX_VALUE}) Probe.due("out(" + i + ")", p.judge.out(i), -1);
        p.item("5907ce" + Probe.times("ab", 1998));
        p.judge.write(0);
        Probe.due("the last byte", p.judge.out(3998), '\'');
        Probe.due("behind it", p.judge.out(3999), -1);
        p.item("00");
        Probe.due("OUT stays", p.judge.out(3998), '\'');
        p.judge.write(0);
        Probe.due("a shorter one", p.judge.out(0), '0');
        Probe.due("nothing of the longer one", p.judge.out(1), -1);
        for (int i : FAR) Probe.due("out(" + i + ")", p.judge.out(i), -1);
    }

    private static void manyCalls() {
        Probe.sentence("An object is used for at most 512 calls after it has been made;");
        ItemJudge x = new ItemJudge();
        // a = 5 and 5: seven calls each time, 511 in all, and the last one.
        for (int i = 0; i < 73; i++) {
            Probe.due("feed", x.feed(0x61203d20, 0x35000000, 0, 0, 0), 20);
            Probe.due("end", x.end(5), 5);
            Probe.due("grammar", x.grammar(), 1);
            Probe.due("feed", x.feed(0x05000000, 0, 0, 0, 0), 20);
            Probe.due("end", x.end(1), 1);
            Probe.due("item", x.item(), 1);
            Probe.due("judge", x.judge(0, 0), 1);
        }
        Probe.due("the 512th", x.node(0, 1), 5);
    }
}
