/** Promises 10, 11 and 12: items as a text and in their shortest form. */
public final class WriteTest {
    private static final Probe P = new Probe();

    public static void main(String[] args) {
        numbers();
        strings();
        lists();
        sevens();
        inner();
        tooLong();
        shortNumbers();
        shortStrings();
        shortMaps();
        Probe.finish();
    }

    private static void written(String hex, String text) {
        P.item(hex);
        Probe.due("write of " + hex, P.judge.write(0), text.length());
        Probe.due("text of " + hex, P.out(), text);
        Probe.due("behind the text of " + hex, P.judge.out(text.length()), -1);
    }

    private static void shortened(String hex, String shortest) {
        P.item(hex);
        Probe.due("shorten of " + hex, P.judge.shorten(0), shortest.length() / 2);
        Probe.due("shortest of " + hex, P.outHex(), shortest);
    }

    private static void numbers() {
        written("00", "0");
        written("0a", "10");
        written("1863", "99");
        written("1800", "0");
        written("1903e8", "1000");
        written("1b7fffffffffffffff", "9223372036854775807");
        written("1b8000000000000000", "9223372036854775808");
        written("1b8ac7230489e80000", "10000000000000000000");
        written("1bffffffffffffffff", "18446744073709551615");
        written("20", "-1");
        written("29", "-10");
        written("3903e7", "-1000");
        written("3b7fffffffffffffff", "-9223372036854775808");
        written("3bfffffffffffffffe", "-18446744073709551615");
        written("3bffffffffffffffff", "-18446744073709551616");
        written("c100", "1(0)");
        written("dbffffffffffffffffd81800", "18446744073709551615(24(0))");
    }

    private static void strings() {
        written("40", "h''");
        written("4401ab00ff", "h'01ab00ff'");
        written("60", "\"\"");
        written("63616263", "\"abc\"");
        written("62225c", "\"\\\"\\\\\"");
        written("67001f20277e7fff", "\"\\x00\\x1f '~\\x7f\\xff\"");
        written("5fff", "(_ )");
        written("7fff", "(_ )");
        written("5f4101ff", "(_ h'01')");
        written("5f41014058020203ff", "(_ h'01', h'', h'0203')");
        written("5f5b0000000000000001075a0000000208095900010aff", "(_ h'07', h'0809', h'0a')");
        written("7f61616122ff", "(_ \"a\", \"\\\"\")");
    }

    private static void lists() {
        written("80", "[]");
        written("8101", "[1]");
        written("83010203", "[1, 2, 3]");
        written("9fff", "[_ ]");
        written("9f0102ff", "[_ 1, 2]");
        written("a0", "{}");
        written("a10102", "{1: 2}");
        written("a26162f4016161", "{\"b\": false, 1: \"a\"}");
        written("bfff", "{_ }");
        written("bf01020304ff", "{_ 1: 2, 3: 4}");
        written("8281a10180a0", "[[{1: []}], {}]");
        written("a1820102c180", "{[1, 2]: 1([])}");
    }

    private static void sevens() {
        written("f4", "false");
        written("f5", "true");
        written("f6", "null");
        written("f7", "undefined");
        written("e0", "simple(0)");
        written("f3", "simple(19)");
        written("f820", "simple(32)");
        written("f8ff", "simple(255)");
        written("f90000", "float16(0x0000)");
        written("f97e0f", "float16(0x7e0f)");
        written("fa0000abcd", "float32(0x0000abcd)");
        written("fb800000000000000f", "float64(0x800000000000000f)");
    }

    private static void inner() {
        P.item("82a101420102c1f6");
        Probe.due("write(1)", P.judge.write(1), 12);
        Probe.due("item 1", P.out(), "{1: h'0102'}");
        Probe.due("write(3)", P.judge.write(3), 7);
        Probe.due("item 3", P.out(), "h'0102'");
        Probe.due("write(4)", P.judge.write(4), 7);
        Probe.due("item 4", P.out(), "1(null)");
        Probe.due("shorten(1)", P.judge.shorten(1), 5);
        Probe.due("item 1", P.outHex(), "a101420102");
        Probe.due("write(6)", P.judge.write(6), -1);
        Probe.due("write(-1)", P.judge.write(-1), -1);
        Probe.due("shorten(6)", P.judge.shorten(6), -1);
        Probe.due("OUT stays", P.outHex(), "a101420102");
    }

    private static void tooLong() {
        P.item("5907ce" + Probe.times("ab", 1998));
        Probe.due("3999 bytes", P.judge.write(0), 3 + 2 * 1998);
        P.item("825907cd" + Probe.times("ab", 1997) + "0a");
        Probe.due("4003 bytes", P.judge.write(0), -1);
        Probe.due("OUT stays", P.out().length(), 3999);
        P.item("825907cc" + Probe.times("ab", 1996) + "01");
        Probe.due("4000 bytes", P.judge.write(0), 4000);
        P.item("825907cc" + Probe.times("ab", 1996) + "0a");
        Probe.due("4001 bytes", P.judge.write(0), -1);
        Probe.due("OUT stays", P.out().length(), 4000);
        P.item("790b00" + Probe.times("00", 2816));
        Probe.due("far too long", P.judge.write(0), -1);
        Probe.due("its shortest form", P.judge.shorten(0), 2819);
        Probe.due("OUT", P.outHex(), "790b00" + Probe.times("00", 2816));
    }

    private static void shortNumbers() {
        shortened("1b0000000000000000", "00");
        shortened("1817", "17");
        shortened("190018", "1818");
        shortened("1a000000ff", "18ff");
        shortened("1b0000000000000100", "190100");
        shortened("1b000000000000ffff", "19ffff");
        shortened("1b0000000000010000", "1a00010000");
        shortened("1b00000000ffffffff", "1affffffff");
        shortened("1b0000000100000000", "1b0000000100000000");
        shortened("3bffffffffffffffff", "3bffffffffffffffff");
        shortened("390000", "20");
        shortened("da0000000100", "c100");
        shortened("f97e00", "f97e00");
        shortened("fa00000000", "fa00000000");
        shortened("fb3ff0000000000000", "fb3ff0000000000000");
        shortened("f8ff", "f8ff");
        shortened("f7", "f7");
    }

    private static void shortStrings() {
        shortened("5fff", "40");
        shortened("7f61616162ff", "626162");
        shortened("5f57" + Probe.times("01", 23) + "4102ff", "5818" + Probe.times("01", 23) + "02");
        shortened("59000101", "4101");
        shortened("5f5b0000000000000001075a0000000208095900010aff", "440708090a");
        shortened("9fff", "80");
        shortened("9f0102ff", "820102");
        shortened("990001f4", "81f4");
        shortened("9f" + Probe.times("00", 24) + "ff", "9818" + Probe.times("00", 24));
        shortened("9f9f180aff5f40ffff", "82810a40");
        shortened("bfff", "a0");
    }

    private static void shortMaps() {
        shortened("a201020002", "a200020102");
        shortened("a3616203616101190001f5", "a301f5616101616203");
        // By the first byte that differs: 0a, 1864, 20, 617a, 626161, 8118.., f4.
        shortened("a7f4008118640162616102617a0320041864050a06", "a70a061864052004617a036261610281186401f400");
        shortened("a4616200616301616102616003", "a4616003616102616200616301");
        shortened("a3430102030043010202014301020102", "a3430102010243010202014301020300");
        shortened("a282810202018281020101", "a282810201018281020201");
        // The same keys stay as they stand, also when they are the same only in this form.
        shortened("a4010318010201010000", "a40000010301020101");
        shortened("bf05bf03010202ff0480ff", "a2048005a202020301");
        shortened("a2a20201010200a10102f4", "a2a10102f4a20102020100");
        shortened("a25f4101ff004000", "a24000410100");
        shortened("81a202018081a2f40000f4", "81a202018081a200f4f400");
    }
}
