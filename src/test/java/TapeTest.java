/** Promises 1, 2, 3 and 12: a new object, feed, end, out. */
public final class TapeTest {
    public static void main(String[] args) {
        newObject();
        feeding();
        ending();
        fullTape();
        outBytes();
        Probe.finish();
    }

    private static void newObject() {
        ItemJudge x = new ItemJudge();
        Probe.due("NONE", ItemJudge.NONE, -1);
        Probe.due("place", x.place(), -1);
        Probe.due("out", x.out(0), -1);
        Probe.due("judge", x.judge(0, 0), -1);
        Probe.due("rule", x.rule(0, -1), -1);
        Probe.due("node", x.node(0, 0), -1);
        Probe.due("write", x.write(0), -1);
        Probe.due("shorten", x.shorten(0), -1);
        Probe.due("end", x.end(20), -1);
        // An empty tape is no rules at all, which is right, and no item, which ends too early.
        Probe.due("grammar", x.grammar(), 0);
        Probe.due("item", x.item(), -2);
    }

    private static void feeding() {
        Probe p = new Probe();
        Probe.due("feed", p.judge.feed(0x530102ff, 0x80040506, 0x0708090a, 0x0b0c0d0e, 0x0f101112), 20);
        Probe.due("item", p.judge.item(), 1);
        Probe.due("first byte's major", p.judge.node(0, 0), 2);
        int[] bytes = {1, 2, 255, 128, 4, 5, 6, 7, 8, 9, 10, 11, 12, 13, 14, 15, 16, 17, 18};
        for (int i = 0; i < bytes.length; i++) Probe.due("byte " + i, p.judge.node(0, 6 + i), bytes[i]);
        Probe.due("the tape is empty then", p.judge.feed(0, 0, 0, 0, 0), 20);
    }

    private static void ending() {
        ItemJudge x = new ItemJudge();
        x.feed(0x01020304, 0, 0, 0, 0);
        Probe.due("end(-1)", x.end(-1), -1);
        Probe.due("end(21)", x.end(21), -1);
        Probe.due("end(20)", x.end(20), 20);
        Probe.due("end(19)", x.end(19), 19);
        Probe.due("end with 19", x.end(0), -1);
        Probe.due("feed", x.feed(0, 0, 0, 0, 0), 39);
        Probe.due("end(1)", x.end(1), 20);
        Probe.due("end(0)", x.end(0), 0);
        Probe.due("end of nothing", x.end(0), -1);
        x.feed(0x18640000, 0, 0, 0, 0);
        x.end(2);
        Probe.due("item", x.item(), 1);
        Probe.due("number", x.node(0, 1), 100);
        x.feed(0x8018ffff, 0, 0, 0, 0);
        x.end(2);
        Probe.due("what end cut away is gone, what stays is too much", x.item(), -2 - 1);
        Probe.due("the tape is empty behind what is no item", x.feed(0, 0, 0, 0, 0), 20);
        Probe.due("no rules", x.grammar(), -1);
        Probe.due("the tape is empty behind what are no rules", x.end(20), -1);
    }

    private static void fullTape() {
        ItemJudge x = new ItemJudge();
        for (int i = 1; i <= 150; i++) Probe.due("feed " + i, x.feed(0x20202020, 0x20202020, 0x20202020, 0x20202020, 0x20202020), 20 * i);
        Probe.due("feed beyond", x.feed(1, 1, 1, 1, 1), -1);
        Probe.due("end", x.end(1), 2981);
        Probe.due("feed beyond by one", x.feed(1, 1, 1, 1, 1), -1);
        Probe.due("end", x.end(19), 2980);
        Probe.due("feed to the full", x.feed(0x20202020, 0x20202020, 0x20202020, 0x20202020, 0x20202041), 3000);
        Probe.due("3000 bytes are rules, less one sign", x.grammar(), -1);
        Probe.due("place", x.place(), 3000);
        for (int i = 1; i <= 150; i++) x.feed(0x20202020, 0x20202020, 0x20202020, 0x20202020, 0x20202020);
        Probe.due("3000 blanks are no rules, but right", x.grammar(), 0);
        Probe.due("place", x.place(), -1);
    }

    private static void outBytes() {
        Probe p = new Probe();
        p.item("8201f5");
        Probe.due("write", p.judge.write(0), 9);
        Probe.due("out", p.out(), "[1, true]");
        Probe.due("out(-1)", p.judge.out(-1), -1);
        Probe.due("out(8)", p.judge.out(8), ']');
        Probe.due("out(9)", p.judge.out(9), -1);
        Probe.due("out far", p.judge.out(Integer.MAX_VALUE), -1);
        Probe.due("out far below", p.judge.out(Integer.MIN_VALUE), -1);
        Probe.due("shorten", p.judge.shorten(0), 3);
        Probe.due("out", p.outHex(), "8201f5");
        Probe.due("out behind", p.judge.out(3), -1);
        p.item("4300ff80");
        p.judge.shorten(0);
        Probe.due("bytes are 0 to 255", p.judge.out(2), 255);
    }
}
