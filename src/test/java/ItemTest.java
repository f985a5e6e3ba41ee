/** Promises 7 and 8: items read from bytes, and what node() tells of them. */
public final class ItemTest {
    private static final Probe P = new Probe();

    public static void main(String[] args) {
        wellFormed();
        illFormed();
        limits();
        kept();
        numbers();
        strings();
        lists();
        sevens();
        nothing();
        Probe.finish();
    }

    private static void wellFormed() {
        String[] ones = {"00", "17", "1818", "1800", "190000", "1a00000000", "1b0000000000000000", "1bffffffffffffffff", "20", "37", "3818",
            "3bffffffffffffffff", "40", "4101", "5800", "590001ff", "5f ff", "5f4101420203ff", "5f40ff", "5f580101ff", "5f5900015a5a00000000ff", "5f5b000000000000000101ff", "60", "61ff", "7fff", "7f60ff",
            "80", "9fff", "a0", "bfff", "9800", "b90000", "e0", "f3", "f4", "f7", "f820", "f8ff", "f97e00", "fa00000000", "fb0000000000000000"};
        for (String hex : ones) P.items(hex.replace(" ", ""), 1);
        P.items("8301820203a10405", 8);
        P.items("c100", 2);
        P.items("d9d9f7c180", 3);
        P.items("9f019f02ffff", 4);
        P.items("bf0102ff", 3);
        P.items("81" + Probe.times("81", 8) + "80", 10);
    }

    private static void illFormed() {
        P.illFormed("", 0);
        for (String first : new String[] {"1c", "1d", "1e", "1f", "3c", "3f", "5c", "5e", "7d", "9c", "be", "dc", "df", "fc", "fe", "ff"}) {
            P.illFormed(first, 0);
            P.illFormed("8200" + first, 2);
        }
        // Too few bytes: the length.
        for (String part : new String[] {"18", "19ff", "1affffff", "1bffffffffffffff", "41", "5801", "58", "5affffffff00", "5bffffffffffffffff", "61",
            "81", "8200", "9f", "9f00", "a1", "a100", "a2000000", "bf", "bf0000", "c0", "5f", "5f41", "5f4100", "7f", "f8", "f9ff", "faffffff", "fb00",
            "98", "9900", "b8", "9b000000000000"}) {
            P.illFormed(part, part.length() / 2);
        }
        P.illFormed("0000", 1);
        P.illFormed("80ff", 1);
        P.illFormed("a100000c", 3);
        P.illFormed("5f6100ff", 1);
        P.illFormed("5f410000ff", 3);
        P.illFormed("5f5fffff", 1);
        P.illFormed("7f4100ff", 1);
        P.illFormed("7f7fffff", 1);
        P.illFormed("5f5cff", 1);
        P.illFormed("5f5b00000000000000", 9);
        P.illFormed("5f5b0000000000000002ff", 11);
        P.illFormed("5f41", 2);
        P.illFormed("81ff", 1);
        P.illFormed("c1ff", 1);
        P.illFormed("bf00ff", 2);
        P.illFormed("a1ff", 1);
        P.illFormed("bf0001ff00", 4);
        P.illFormed("f81f", 1);
        P.illFormed("f800", 1);
        P.illFormed("82f81800", 2);
        P.illFormed("f81fff", 1);
    }

    private static void limits() {
        P.items("9864" + Probe.times("00", 100), 101);
        P.illFormed("9865" + Probe.times("00", 101), 0);
        P.illFormed("9865", 0);
        P.illFormed("98", 1);
        P.illFormed("9bffffffffffffffff", 0);
        P.illFormed("9bffffffffffffff", 8);
        P.illFormed("81990065", 1);
        P.illFormed("b865", 0);
        P.items("b863" + Probe.times("0000", 99), 199);
        P.items("9f" + Probe.times("00", 100) + "ff", 101);
        P.illFormed("9f" + Probe.times("00", 101) + "ff", 101);
        P.illFormed("9f" + Probe.times("00", 100), 101);
        P.items("81b863" + Probe.times("0000", 99), 200);
        P.illFormed("8181b863" + Probe.times("0000", 99), 201);
        P.items("8200b862" + Probe.times("0000", 98), 199);
        P.illFormed("82" + "9862" + Probe.times("00", 98) + "9864" + Probe.times("00", 100), 1 + 2 + 98 + 2 + 99);
        // A 101st pair without length begins at its key; the 201st item comes first, but where strings are long.
        P.illFormed("bf" + Probe.times("0000", 100), 1 + 199);
        P.items(Probe.times("81", 9) + "80", 10);
        P.illFormed(Probe.times("81", 10) + "80", 10);
        P.illFormed(Probe.times("81", 10) + "1c", 10);
        P.illFormed(Probe.times("81", 10), 10);
        P.items(Probe.times("c1", 9) + "00", 10);
        P.illFormed(Probe.times("c1", 10) + "00", 10);
        P.items(Probe.times("81", 9) + "5f4100ff", 10);
        P.items("590bb5" + Probe.times("ab", 2997), 1);
        P.illFormed("590bb6" + Probe.times("ab", 2997), 3000);
        P.items("5f" + Probe.times("40", 2998) + "ff", 1);
    }

    private static void kept() {
        P.items("820102", 3);
        P.illFormed("82", 1);
        Probe.due("the item that was there", P.judge.node(0, 1), 2);
        Probe.due("its child", P.judge.node(2, 1), 2);
        P.illFormed(Probe.times("81", 10) + "80", 10);
        Probe.due("the item that was there", P.judge.node(1, 1), 1);
        Probe.due("it is written", P.judge.write(0), 6);
        Probe.due("as it was", P.out(), "[1, 2]");
    }

    /** Of item k: major, number, width, first byte, behind, parent. */
    private static void node(int k, long... told) {
        for (int what = 0; what < told.length; what++) Probe.due("node(" + k + ", " + what + ")", P.judge.node(k, what), told[what]);
    }

    private static void numbers() {
        String[] hexes = {"00", "17", "1818", "1903e8", "1a000f4240", "1b8000000000000000", "1bffffffffffffffff", "1800", "20", "3863", "3bffffffffffffffff"};
        long[] majors = {0, 0, 0, 0, 0, 0, 0, 0, 1, 1, 1};
        long[] values = {0, 23, 24, 1000, 1000000, Long.MIN_VALUE, -1, 0, 0, 99, -1};
        long[] widths = {0, 0, 1, 2, 4, 8, 8, 1, 0, 1, 8};
        for (int i = 0; i < hexes.length; i++) {
            P.items(hexes[i], 1);
            node(0, majors[i], values[i], widths[i], 0, hexes[i].length() / 2, -1, -1, -1);
        }
        P.items("82c1181902", 4);
        node(0, 4, 2, 0, 0, 5, -1, -1);
        node(1, 6, 1, 0, 1, 4, 0, -1);
        node(2, 0, 25, 1, 2, 4, 1, -1);
        node(3, 0, 2, 0, 4, 5, 0, -1);
        node(4, -1, -1, -1, -1, -1, -1, -1);
        P.items("db800000000000000000", 2);
        node(0, 6, Long.MIN_VALUE, 8, 0, 10, -1);
    }

    private static void strings() {
        P.items("83430102ff6261ff80", 4);
        node(1, 2, 3, 0, 1, 5, 0, 1, 2, 255, -1, -1);
        node(2, 3, 2, 0, 5, 8, 0, 0x61, 255, -1);
        node(3, 4, 0, 0, 8, 9, 0, -1);
        P.items("825f41014058020203ff7f6161ff", 3);
        node(1, 2, 3, 31, 1, 10, 0, 1, 2, 3, -1);
        node(2, 3, 1, 31, 10, 14, 0, 0x61, -1);
        P.items("5fff", 1);
        node(0, 2, 0, 31, 0, 2, -1, -1);
        P.items("5801ff", 1);
        node(0, 2, 1, 1, 0, 3, -1, 255, -1);
    }

    private static void lists() {
        P.items("9f01bf0203ff8104ff", 7);
        node(0, 4, 3, 31, 0, 9, -1, -1);
        node(1, 0, 1, 0, 1, 2, 0);
        node(2, 5, 1, 31, 2, 6, 0);
        node(3, 0, 2, 0, 3, 4, 2);
        node(4, 0, 3, 0, 4, 5, 2);
        node(5, 4, 1, 0, 6, 8, 0);
        node(6, 0, 4, 0, 7, 8, 5);
        P.items("b80201020304", 5);
        node(0, 5, 2, 1, 0, 6, -1);
        node(4, 0, 4, 0, 5, 6, 0);
        P.items("9fff", 1);
        node(0, 4, 0, 31, 0, 2, -1);
    }

    private static void sevens() {
        String[] hexes = {"e0", "f4", "f7", "f820", "f8ff", "f97e01", "fa80000001", "fbfff0000000000001"};
        long[] values = {0, 20, 23, 32, 255, 0x7e01, 0x80000001L, 0xfff0000000000001L};
        long[] widths = {0, 0, 0, 1, 1, 2, 4, 8};
        for (int i = 0; i < hexes.length; i++) {
            P.items(hexes[i], 1);
            node(0, 7, values[i], widths[i], 0, hexes[i].length() / 2, -1, -1);
        }
    }

    private static void nothing() {
        P.items("4101", 1);
        int[] none = {-1, -2, Integer.MIN_VALUE, 7, 8, Integer.MAX_VALUE};
        for (int what : none) Probe.due("node(0, " + what + ")", P.judge.node(0, what), -1);
        int[] items = {-1, 1, 200, 201, 1024, Integer.MAX_VALUE, Integer.MIN_VALUE};
        for (int k : items) {
            Probe.due("node(" + k + ", 0)", P.judge.node(k, 0), -1);
            Probe.due("write(" + k + ")", P.judge.write(k), -1);
            Probe.due("shorten(" + k + ")", P.judge.shorten(k), -1);
            Probe.due("judge(0, " + k + ")", P.judge.judge(0, k), -1);
        }
    }
}
