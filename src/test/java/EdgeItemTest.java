/** Section 3 of THE TAPE, sentence by sentence: items at the edges that it names, and on both sides of them. */
public final class EdgeItemTest {
    private static final Probe P = new Probe();

    public static void main(String[] args) {
        initialBytes();
        simpleValues();
        withoutLength();
        noSuchBytes();
        wrongParts();
        wrongBreaks();
        smallSimples();
        tooFewBytes();
        bytesBehind();
        tooManyItems();
        tooDeep();
        tooLong();
        tooLongWithoutLength();
        firstPlace();
        anyText();
        numbered();
        Probe.finish();
    }

    private static String hex(int b) {
        return String.format("%02x", b);
    }

    /** How many bytes stand behind an initial byte for its number. */
    private static int width(int info) {
        return info < 24 || info > 27 ? 0 : 1 << (info - 24);
    }

    private static void initialBytes() {
        Probe.sentence("an initial byte (major type in its highest 3 bits, the lowest 5: 0 .. 23 itself, 24 .. 27 the next 1, 2, 4, 8 bytes, 31 without length), major 0 a number, 1 (-1 less it), 2 bytes, 3 text, 4 an array, 5 a map (pairs), 6 a tag with an item,");
        for (int b = 0; b < 256; b++) {
            int major = b >> 5;
            int info = b & 31;
            int w = width(info);
            if (info > 27) continue;
            // The number is 1 less than the greatest, for what has no bytes or items behind; 0, where it can be, for others.
            boolean list = major >= 2 && major <= 5;
            if (list && info > 0 && info < 24) continue;
            String number = w == 0 ? "" : (list ? "00" : "ff").repeat(w - 1) + (list ? "00" : "fe");
            String whole = hex(b) + number + (major == 6 ? "00" : "");
            P.items(whole, major == 6 ? 2 : 1);
            long value = list ? 0 : w == 0 ? info : w == 8 ? -2 : (1L << 8 * w) - 2;
            Probe.due("major of " + whole, P.judge.node(0, 0), major);
            Probe.due("number of " + whole, P.judge.node(0, 1), value);
            Probe.due("bytes of the number of " + whole, P.judge.node(0, 2), w);
            Probe.due("end of " + whole, P.judge.node(0, 4), whole.length() / 2);
            for (int n = 0; n < w; n++) P.illFormed(hex(b) + number.substring(0, 2 * n), 1 + n);
            P.illFormed(whole + "00", whole.length() / 2);
        }
        for (int n = 0; n < 24; n++) {
            P.items(hex(0x40 + n) + Probe.times("ab", n), 1);
            P.items(hex(0x60 + n) + Probe.times("ab", n), 1);
            P.items(hex(0x80 + n) + Probe.times("00", n), 1 + n);
            P.items(hex(0xa0 + n) + Probe.times("0000", n), 1 + 2 * n);
            if (n > 0) P.illFormed(hex(0x40 + n) + Probe.times("ab", n - 1), n);
            if (n > 0) P.illFormed(hex(0x80 + n) + Probe.times("00", n - 1), n);
            if (n > 0) P.illFormed(hex(0xa0 + n) + Probe.times("0000", n - 1), 2 * n - 1);
            if (n > 0) P.illFormed(hex(0xa0 + n) + Probe.times("0000", n - 1) + "00", 2 * n);
        }
        P.items("5818" + Probe.times("00", 24), 1);
        P.illFormed("5818" + Probe.times("00", 23), 25);
        P.illFormed("5818" + Probe.times("00", 25), 26);
        P.items("58ff" + Probe.times("00", 255), 1);
        P.items("590100" + Probe.times("00", 256), 1);
        P.items("5a00000001ab", 1);
        P.items("5b0000000000000001ab", 1);
    }

    private static void simpleValues() {
        Probe.sentence("7: 0 .. 23, and 24 with a byte from 32 on, simple values; 25, 26, 27 floats of 2, 4, 8 bytes, kept as bits; 31 a BREAK.");
        for (int n = 0; n < 24; n++) {
            P.items(hex(0xe0 + n), 1);
            Probe.due("simple value", P.judge.node(0, 1), n);
        }
        for (int n = 0; n < 256; n++) {
            if (n < 32) P.illFormed("f8" + hex(n), 1);
            else {
                P.items("f8" + hex(n), 1);
                Probe.due("simple value", P.judge.node(0, 1), n);
            }
        }
        P.items("f90000", 1);
        P.items("f9ffff", 1);
        Probe.due("bits of 2 bytes", P.judge.node(0, 1), 0xffff);
        P.items("fa80000000", 1);
        Probe.due("bits of 4 bytes", P.judge.node(0, 1), 0x80000000L);
        P.items("fbffffffffffffffff", 1);
        Probe.due("bits of 8 bytes", P.judge.node(0, 1), -1);
        P.items("fb7ff0000000000001", 1);
        Probe.due("bits of 8 bytes", P.judge.node(0, 1), 0x7ff0000000000001L);
        P.illFormed("ff", 0);
    }

    private static void withoutLength() {
        Probe.sentence("Without length: bytes and text of parts of the same major with length, array, map, up to a BREAK.");
        for (String first : new String[] {"5f", "7f", "9f", "bf"}) {
            P.items(first + "ff", 1);
            P.illFormed(first, 1);
            P.illFormed(first + "ffff", 2);
        }
        P.items("5f40ff", 1);
        P.items("5f4101ff", 1);
        P.items("5f4101420203ff", 1);
        P.items("7f6061617800ff", 1);
        P.items("5f5801015900010259000045a1a2a3a4a5ff", 1);
        P.items("5f5a00000001ab5b0000000000000002cdefff", 1);
        P.items("9f00ff", 2);
        P.items("9f0001ff", 3);
        P.items("bf0001ff", 3);
        P.items("bf00010203ff", 5);
        P.items("9f9fff5fffbfffff", 4);
        P.items("bf9fff9fffff", 3);
        P.illFormed("5f4101", 3);
        P.illFormed("9f00", 2);
        P.illFormed("bf0001", 3);
    }

    private static void noSuchBytes() {
        Probe.sentence("Not WELL-FORMED, told with a place, gone through from the first byte on: 28 .. 30, and 31 of majors 0, 1, 6: at that byte");
        for (int major = 0; major < 8; major++) {
            for (int info = 27; info < 32; info++) {
                String b = hex(major << 5 | info);
                boolean none = info >= 28 && info < 31 || info == 31 && (major < 2 || major == 6);
                if (!none) continue;
                P.illFormed(b, 0);
                P.illFormed(b + "000000", 0);
                P.illFormed("81" + b, 1);
                P.illFormed("8200" + b, 2);
                P.illFormed("a100" + b, 2);
                P.illFormed("c1" + b, 1);
                P.illFormed("9f" + b, 1);
                P.illFormed("bf" + b, 1);
                P.illFormed("bf00" + b, 2);
            }
        }
        P.items("1b0000000000000000", 1);
        P.items("3b0000000000000000", 1);
        P.items("db000000000000000000", 2);
    }

    private static void wrongParts() {
        Probe.sentence("a part of bytes or text that is none");
        for (int b = 0; b < 256; b++) {
            int major = b >> 5;
            int info = b & 31;
            for (int m = 2; m < 4; m++) {
                if (b == 255) continue;
                String text = hex(m << 5 | 31) + hex(b);
                if (major != m || info > 27) {
                    P.illFormed(text, 1);
                    P.illFormed(text + "00ff", 1);
                    P.illFormed(hex(m << 5 | 31) + hex(m << 5 | 1) + "00" + hex(b) + "ff", 3);
                } else if (info < 24) P.items(text + Probe.times("ff", info) + "ff", 1);
                else P.items(text + Probe.times("00", width(info) - 1) + "01abff", 1);
            }
        }
        P.illFormed("5f5fffff", 1);
        P.illFormed("7f7fffff", 1);
        P.illFormed("5f6100ff", 1);
        P.illFormed("7f4100ff", 1);
        P.illFormed("5f00ff", 1);
        P.illFormed("815f4101c100ff", 4);
        // A part with too few bytes: the length.
        P.illFormed("5f42ff", 3);
        P.illFormed("5f58", 2);
        P.illFormed("5f5802ff", 4);
        P.illFormed("5f59ff", 3);
        P.illFormed("5f5bffffffffffffffff", 10);
    }

    private static void wrongBreaks() {
        Probe.sentence("a BREAK elsewhere, or in a map behind a key: at it");
        P.illFormed("ff", 0);
        P.illFormed("81ff", 1);
        P.illFormed("8200ff", 2);
        P.illFormed("a1ff", 1);
        P.illFormed("a100ff", 2);
        P.illFormed("c1ff", 1);
        P.illFormed("bf00ff", 2);
        P.illFormed("bf000100ff", 4);
        P.items("bf0001ff", 3);
        P.illFormed("bf0001ffff", 4);
        P.illFormed("9fc1ff", 2);
        P.illFormed("9f81ffff", 2);
        P.illFormed("9fa100ff", 3);
        P.illFormed("80ff", 1);
        P.items("9f80ff", 2);
    }

    private static void smallSimples() {
        Probe.sentence("of major 7, 24 with a byte below 32: at that byte");
        P.illFormed("f800", 1);
        P.illFormed("f817", 1);
        P.illFormed("f818", 1);
        P.illFormed("f81f", 1);
        P.items("f820", 1);
        P.illFormed("f8", 1);
        P.illFormed("82f820f81f", 4);
        P.illFormed("f81fff", 1);
        P.items("1800", 1);
        P.items("181f", 1);
    }

    private static void tooFewBytes() {
        Probe.sentence("too few bytes: the length");
        P.illFormed("", 0);
        P.illFormed("18", 1);
        P.illFormed("1900", 2);
        P.illFormed("1a000000", 4);
        P.illFormed("1b00000000000000", 8);
        P.illFormed("f8", 1);
        P.illFormed("f900", 2);
        P.illFormed("fb00000000000000", 8);
        P.illFormed("41", 1);
        P.illFormed("4200", 2);
        P.illFormed("590bb6" + Probe.times("00", 2997), 3000);
        P.items("590bb5" + Probe.times("00", 2997), 1);
        P.illFormed("5a7fffffff00", 6);
        P.illFormed("5affffffff00", 6);
        P.illFormed("5b7fffffffffffffff00", 10);
        P.illFormed("5b8000000000000000", 9);
        P.illFormed("5bffffffffffffffff00", 10);
        P.illFormed("81", 1);
        P.illFormed("8200", 2);
        P.illFormed("a1", 1);
        P.illFormed("a100", 2);
        P.illFormed("c1", 1);
        P.illFormed("c1c1", 2);
        P.illFormed("9864" + Probe.times("00", 99), 101);
    }

    private static void bytesBehind() {
        Probe.sentence("any behind: the first of them");
        P.items("00", 1);
        P.illFormed("0000", 1);
        P.illFormed("000000", 1);
        P.illFormed("00ff", 1);
        P.illFormed("001c", 1);
        P.illFormed("4000", 1);
        P.illFormed("410000", 2);
        P.illFormed("810000", 2);
        P.illFormed("5fff00", 2);
        P.illFormed("c10000", 2);
        P.illFormed("00" + Probe.times("00", 2999), 1);
    }

    private static void tooManyItems() {
        Probe.sentence("also the 201st item, the 11th in one another: at its first byte");
        // 1 and two arrays of 98 and their items are 199.
        String most = "84009861" + Probe.times("00", 97);
        P.items(most + "9862" + Probe.times("00", 98) + "f6", 200);
        P.items(most + "9861" + Probe.times("00", 97) + "f6", 199);
        P.illFormed(most + "9863" + Probe.times("00", 99) + "f6", 2 + 2 + 97 + 2 + 99);
        P.items("81b863" + Probe.times("0000", 99), 200);
        P.items("b863" + Probe.times("0000", 99), 199);
        P.illFormed("8181b863" + Probe.times("0000", 99), 4 + 197);
        P.illFormed("b864" + Probe.times("0000", 100), 2 + 199);
        P.illFormed("bf" + Probe.times("0000", 100) + "ff", 1 + 199);
        P.items("bf" + Probe.times("0000", 99) + "ff", 199);
        P.illFormed("bf" + Probe.times("0000", 99) + "00ff", 1 + 199);
        P.items("829861" + Probe.times("00", 97) + "9864" + Probe.times("00", 100), 200);
        P.illFormed("829862" + Probe.times("00", 98) + "9864" + Probe.times("00", 100), 1 + 2 + 98 + 2 + 99);
        P.illFormed("829862" + Probe.times("00", 98) + "9f" + Probe.times("00", 100) + "ff", 1 + 2 + 98 + 1 + 99);
        P.items("829862" + Probe.times("00", 98) + "9f" + Probe.times("00", 99) + "ff", 200);
        // Parts are no items.
        P.items("5f" + Probe.times("40", 2998) + "ff", 1);
        // What would be the 201st and is none, or is not there.
        P.illFormed("829862" + Probe.times("00", 98) + "9864" + Probe.times("00", 99) + "1c", 1 + 2 + 98 + 2 + 99);
        P.illFormed("829862" + Probe.times("00", 98) + "9864" + Probe.times("00", 99), 1 + 2 + 98 + 2 + 99);
    }

    private static void tooDeep() {
        Probe.sentence("the 11th in one another: at its first byte");
        for (String around : new String[] {"81", "c1", "9f", "a100", "bf00"}) {
            int n = around.length() / 2;
            int each = n;
            String close = around.equals("9f") || around.equals("bf00") ? "ff" : "";
            P.items(Probe.times(around, 8) + "00" + Probe.times(close, 8), 8 * each + 1);
            P.items(Probe.times(around, 9) + "00" + Probe.times(close, 9), 9 * each + 1);
            // The key of the tenth map is the 11th in one another, too.
            P.illFormed(Probe.times(around, 10) + "00" + Probe.times(close, 10), 9 * n + 1);
        }
        P.items(Probe.times("81", 9) + "80", 10);
        P.items(Probe.times("81", 9) + "9fff", 10);
        P.items(Probe.times("81", 9) + "a0", 10);
        P.items(Probe.times("81", 9) + "5f4100ff", 10);
        P.illFormed(Probe.times("81", 9) + "8180", 10);
        P.illFormed(Probe.times("81", 9) + "a10000", 10);
        P.illFormed(Probe.times("a1", 10) + "00", 10);
        P.items(Probe.times("a1", 9) + "00" + Probe.times("00", 9), 19);
        P.illFormed(Probe.times("81", 10) + "ff", 10);
        P.illFormed(Probe.times("81", 10) + "1c", 10);
        P.illFormed(Probe.times("81", 10), 10);
        P.items("82" + Probe.times("81", 8) + "80" + Probe.times("81", 8) + "80", 19);
    }

    private static void tooLong() {
        Probe.sentence("arrays or maps of more than 100: at the initial byte (behind its number's bytes)");
        P.items("9863" + Probe.times("00", 99), 100);
        P.items("9864" + Probe.times("00", 100), 101);
        P.illFormed("9865" + Probe.times("00", 101), 0);
        P.illFormed("9865", 0);
        P.illFormed("98ff", 0);
        P.illFormed("819865", 1);
        P.illFormed("82009865", 2);
        P.items("990064" + Probe.times("00", 100), 101);
        P.illFormed("990065", 0);
        P.illFormed("990100", 0);
        P.illFormed("99ffff", 0);
        P.illFormed("9a00000065", 0);
        P.illFormed("9a80000000", 0);
        P.illFormed("9b0000000000000065", 0);
        P.illFormed("9b0000000100000000", 0);
        P.illFormed("9b8000000000000000", 0);
        P.illFormed("9bffffffffffffffff", 0);
        // Its number's bytes come first.
        P.illFormed("98", 1);
        P.illFormed("9900", 2);
        P.illFormed("99ff", 2);
        P.illFormed("9bffffffffffffff", 8);
        P.illFormed("b865", 0);
        P.illFormed("b8ff", 0);
        P.illFormed("b90065", 0);
        P.illFormed("bbffffffffffffffff", 0);
        P.illFormed("bb", 1);
        P.illFormed("b864", 2);
        P.illFormed("c1b865", 1);
        P.items("5865" + Probe.times("00", 101), 1);
    }

    private static void tooLongWithoutLength() {
        Probe.sentence("without length at the 101st (pair's) first byte.");
        P.items("9f" + Probe.times("00", 99) + "ff", 100);
        P.items("9f" + Probe.times("00", 100) + "ff", 101);
        P.illFormed("9f" + Probe.times("00", 101) + "ff", 101);
        P.illFormed("9f" + Probe.times("00", 102) + "ff", 101);
        P.illFormed("9f" + Probe.times("00", 100) + "1c", 101);
        P.illFormed("9f" + Probe.times("00", 100), 101);
        P.illFormed("9f" + Probe.times("4100", 101) + "ff", 201);
        P.illFormed("9f" + Probe.times("00", 99) + "810000ff", 102);
        P.items("819f" + Probe.times("00", 100) + "ff", 102);
        P.illFormed("819f" + Probe.times("00", 101) + "ff", 102);
    }

    private static void firstPlace() {
        Probe.sentence("gone through from the first byte on");
        P.illFormed("821c1c", 1);
        P.illFormed("82001c", 2);
        P.illFormed("831cff", 1);
        P.illFormed("82f8001c", 2);
        P.illFormed("82ff9865", 1);
        P.illFormed("829865ff", 1);
        P.illFormed("001c", 1);
        P.illFormed("82411c1c", 3);
        P.illFormed("825f611cff", 2);
    }

    private static void anyText() {
        Probe.sentence("(Text's bytes are any.)");
        for (int b = 0; b < 256; b++) {
            P.items("61" + hex(b), 1);
            Probe.due("byte of text", P.judge.node(0, 6), b);
        }
    }

    private static void numbered() {
        Probe.sentence("ITEMS are numbered from 0, each before those in it, these in order; parts of bytes and text are none.");
        P.items("8482010203a10405c106", 10);
        int[] places = {0, 1, 2, 3, 4, 5, 6, 7, 8, 9};
        int[] within = {-1, 0, 1, 1, 0, 0, 5, 5, 0, 8};
        for (int k = 0; k < 10; k++) Probe.due("item in which " + k + " is", P.judge.node(k, 5), within[k]);
        for (int k = 0; k < 10; k++) Probe.due("place of " + k, P.judge.node(k, 3), places[k]);
        Probe.due("no item 10", P.judge.node(10, 3), -1);
        P.items("825f41014102ff03", 3);
        Probe.due("place of the item behind parts", P.judge.node(2, 3), 7);
        P.items("9f5f40ff7fff00ff", 4);
        Probe.due("place of the last one", P.judge.node(3, 3), 6);
    }
}
