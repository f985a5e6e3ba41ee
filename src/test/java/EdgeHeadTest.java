import java.math.BigInteger;
import java.util.ArrayList;
import java.util.Collections;
import java.util.List;

/**
 * Items of each major with each width of its number, alone and at each place of other items: in arrays, as keys, as values,
 * in tags, in what has no length. What node, write and shorten tell of them, and where they cannot be WELL-FORMED.
 */
public final class EdgeHeadTest {
    /** An item in hex, its text, its shortest form in hex, and what node tells of it: its number and the width of that. */
    private record Item(String hex, String text, String shortest, BigInteger number, int width) {
        int major() {
            return Integer.parseInt(hex.substring(0, 2), 16) >> 5;
        }
    }

    /** A place for an item: what stands before it and behind it, in hex, as a text and in the shortest form; which item it is. */
    private record Place(String before, String behind, String left, String right, String shortLeft, String shortRight, int item) {
    }

    private static final Place[] PLACES = {
        new Place("", "", "", "", "", "", 0),
        new Place("8200", "", "[0, ", "]", "8200", "", 2),
        new Place("9f", "ff", "[_ ", "]", "81", "", 1),
        new Place("9f00", "01ff", "[_ 0, ", ", 1]", "8300", "01", 2),
        new Place("a1", "00", "{", ": 0}", "a1", "00", 1),
        new Place("a100", "", "{0: ", "}", "a100", "", 2),
        new Place("bf", "20ff", "{_ ", ": -1}", "a1", "20", 1),
        new Place("bf00", "ff", "{_ 0: ", "}", "a100", "", 2),
        new Place("c1", "", "1(", ")", "c1", "", 1),
        new Place("d8189a00000001", "", "24([", "])", "d81881", "", 2),
        new Place("a1c600da0000000081", "", "{6(0): 0([", "])}", "a1c600c081", "", 5),
    };

    private static final int[] WIDTHS = {0, 1, 2, 4, 8};
    private static final String[] NUMBERS = {"0", "1", "9", "10", "22", "23", "24", "25", "99", "255", "256", "1000", "65535", "65536",
        "4294967295", "4294967296", "9223372036854775807", "9223372036854775808", "18446744073709551615"};

    public static void main(String[] args) {
        List<Item> items = items();
        told(items);
        illFormedEverywhere();
        tooFewBytes();
        tooDeep();
        tooMany();
        Probe.finish();
    }

    private static String zeros(int width, BigInteger n) {
        String hex = n.toString(16);
        return "0".repeat(2 * width - hex.length()) + hex;
    }

    /** An initial byte of a major, and a number of so many bytes. */
    private static String head(int major, BigInteger n, int width) {
        if (width == 0) return String.format("%02x", major << 5 | n.intValue());
        int info = width == 1 ? 24 : width == 2 ? 25 : width == 4 ? 26 : 27;
        return String.format("%02x", major << 5 | info) + zeros(width, n);
    }

    private static boolean fits(BigInteger n, int width) {
        return width == 0 ? n.intValue() < 24 && n.bitLength() < 8 : n.bitLength() <= 8 * width;
    }

    private static String shortHead(int major, BigInteger n) {
        for (int width : WIDTHS) {
            if (fits(n, width)) return head(major, n, width);
        }
        return "";
    }

    private static List<Item> items() {
        List<Item> all = new ArrayList<>();
        for (String words : NUMBERS) {
            BigInteger n = new BigInteger(words);
            for (int width : WIDTHS) {
                if (fits(n, width)) withNumber(all, n, width);
            }
        }
        withoutLength(all);
        sevens(all);
        return all;
    }

    private static void withNumber(List<Item> all, BigInteger n, int width) {
        all.add(new Item(head(0, n, width), n.toString(), shortHead(0, n), n, width));
        all.add(new Item(head(1, n, width), n.not().toString(), shortHead(1, n), n, width));
        all.add(new Item(head(6, n, width) + "f5", n + "(true)", shortHead(6, n) + "f5", n, width));
        int k = n.intValue();
        if (n.bitLength() < 10) {
            all.add(new Item(head(2, n, width) + "e5".repeat(k), "h'" + "e5".repeat(k) + "'", shortHead(2, n) + "e5".repeat(k), n, width));
            all.add(new Item(head(3, n, width) + "5c".repeat(k), "\"" + "\\\\".repeat(k) + "\"", shortHead(3, n) + "5c".repeat(k), n, width));
        }
        if (n.bitLength() < 6) {
            all.add(new Item(head(4, n, width) + "20".repeat(k), "[" + listed("-1", k) + "]", shortHead(4, n) + "20".repeat(k), n, width));
            all.add(new Item(head(5, n, width) + "2001".repeat(k), "{" + listed("-1: 1", k) + "}", shortHead(5, n) + "2001".repeat(k), n, width));
        }
    }

    private static String listed(String what, int n) {
        return String.join(", ", Collections.nCopies(n, what));
    }

    private static void withoutLength(List<Item> all) {
        endless(all, "5fff", "(_ )", "40", 0);
        endless(all, "7fff", "(_ )", "60", 0);
        endless(all, "5f40ff", "(_ h'')", "40", 0);
        endless(all, "7f6122780141ff", "(_ \"\\\"\", \"A\")", "622241", 2);
        endless(all, "5f41015a000000020203ff", "(_ h'01', h'0203')", "43010203", 3);
        endless(all, "9fff", "[_ ]", "80", 0);
        endless(all, "bfff", "{_ }", "a0", 0);
        endless(all, "9f1800f7ff", "[_ 0, undefined]", "8200f7", 2);
        endless(all, "bf1802f64100f6ff", "{_ 2: null, h'00': null}", "a202f64100f6", 2);
        endless(all, "bf4100f602f6ff", "{_ h'00': null, 2: null}", "a202f64100f6", 2);
        endless(all, "bf9fff9fffff", "{_ [_ ]: [_ ]}", "a18080", 1);
        endless(all, "9fbfff5fffff", "[_ {_ }, (_ )]", "82a040", 2);
    }

    private static void endless(List<Item> all, String hex, String text, String shortest, int number) {
        all.add(new Item(hex, text, shortest, BigInteger.valueOf(number), 31));
    }

    private static void sevens(List<Item> all) {
        for (int n = 0; n < 256; n += n < 36 ? 1 : 73) {
            if (n >= 24 && n < 32) continue;
            String text = n == 20 ? "false" : n == 21 ? "true" : n == 22 ? "null" : n == 23 ? "undefined" : "simple(" + n + ")";
            String hex = n < 24 ? String.format("%02x", 0xe0 + n) : String.format("f8%02x", n);
            all.add(new Item(hex, text, hex, BigInteger.valueOf(n), n < 24 ? 0 : 1));
        }
        for (String bits : new String[] {"0000", "0014", "3c00", "ffff", "00000000", "0000001f", "7f800000", "ffffffff", "0000000000000000",
            "0000000000000020", "7ff0000000000000", "8000000000000001", "ffffffffffffffff"}) {
            int width = bits.length() / 2;
            String hex = (width == 2 ? "f9" : width == 4 ? "fa" : "fb") + bits;
            all.add(new Item(hex, "float" + 8 * width + "(0x" + bits + ")", hex, new BigInteger(bits, 16), width));
        }
    }

    private static void told(List<Item> items) {
        Probe.sentence("1 its number (major 0, 1, 6; how many bytes, items or pairs of 2 to 5; of 7 the simple value, a float's bits), 2 how many bytes its number has (0, 1, 2, 4, 8; 31 without length), 3 the place of its first byte, 4 the one behind it");
        for (Place place : PLACES) {
            for (Item item : items) {
                String hex = place.before + item.hex + place.behind;
                Probe p = new Probe();
                if (p.item(hex) < 0) Probe.due("item " + hex, -1, 1);
                int from = place.before.length() / 2;
                Probe.due("major of " + hex, p.judge.node(place.item, 0), item.major());
                Probe.due("number of " + hex, p.judge.node(place.item, 1), item.number.longValue());
                Probe.due("width of " + hex, p.judge.node(place.item, 2), item.width);
                Probe.due("start of " + hex, p.judge.node(place.item, 3), from);
                Probe.due("end of " + hex, p.judge.node(place.item, 4), from + item.hex.length() / 2);
                written(p, hex, place, item);
            }
        }
    }

    private static void written(Probe p, String hex, Place place, Item item) {
        String text = place.left + item.text + place.right;
        Probe.due("write " + hex, p.judge.write(0), text.length());
        Probe.due("text of " + hex, p.out(), text);
        Probe.due("write it alone " + hex, p.judge.write(place.item), item.text.length());
        Probe.due("its text alone " + hex, p.out(), item.text);
        String shortest = place.shortLeft + item.shortest + place.shortRight;
        Probe.due("shorten " + hex, p.judge.shorten(0), shortest.length() / 2);
        Probe.due("shortest form of " + hex, p.outHex(), shortest);
        Probe.due("shorten it alone " + hex, p.judge.shorten(place.item), item.shortest.length() / 2);
        Probe.due("its shortest form alone " + hex, p.outHex(), item.shortest);
    }

    private static void illFormedEverywhere() {
        Probe.sentence("Not WELL-FORMED, told with a place, gone through from the first byte on: 28 .. 30, and 31 of majors 0, 1, 6: at that byte");
        for (int major = 0; major < 8; major++) {
            for (int info = 28; info < 31; info++) everywhere(String.format("%02x", major << 5 | info), 0, false);
        }
        for (String hex : new String[] {"1f", "3f", "df"}) everywhere(hex, 0, false);
        Probe.sentence("a part of bytes or text that is none, a BREAK elsewhere, or in a map behind a key: at it; of major 7, 24 with a byte below 32: at that byte");
        everywhere("ff", 0, true);
        for (String part : new String[] {"00", "20", "61", "80", "a0", "c0", "f4", "5f", "5c", "5d", "5e", "7f"}) {
            everywhere("5f" + part, 1, false);
            everywhere("5f4100" + part, 3, false);
        }
        for (String part : new String[] {"00", "20", "41", "80", "a0", "c0", "f4", "7f", "7c", "7d", "7e", "5f"}) {
            everywhere("7f" + part, 1, false);
            everywhere("7f6161" + part, 3, false);
        }
        for (int n = 0; n < 32; n++) everywhere(String.format("f8%02x", n), 1, false);
        Probe.sentence("arrays or maps of more than 100: at the initial byte (behind its number's bytes), without length at the 101st (pair's) first byte");
        for (String hex : new String[] {"9865", "98ff", "990065", "9a00000065", "9b0000000000000065", "9bffffffffffffffff", "b865", "b90065",
            "ba80000000", "bb0000000100000001"}) everywhere(hex, 0, false);
        everywhere("9f" + "00".repeat(101), 101, false);
        everywhere("9f" + "00".repeat(100) + "1c", 101, false);
        Probe.sentence("any behind: the first of them");
        for (String hex : new String[] {"00", "40", "5fff", "80", "a0", "c000", "f4", "f97e00", "9fff"}) {
            Probe p = new Probe();
            for (String more : new String[] {"00", "ff", "1c", "f800", "0000", "9865"}) p.illFormed(hex + more, hex.length() / 2);
        }
    }

    /** What is so begins no item at any place, so many bytes behind its first one. */
    private static void everywhere(String hex, int behind, boolean isBreak) {
        for (Place place : PLACES) {
            boolean ends = isBreak && (place.before.equals("9f") || place.before.equals("9f00") || place.before.equals("bf"));
            if (ends) continue;
            Probe p = new Probe();
            int at = place.before.length() / 2 + behind;
            p.illFormed(place.before + hex, at);
            p.illFormed(place.before + hex + "00" + place.behind, at);
            p.illFormed(place.before + hex + "ffffffffffffffffff", at);
        }
    }

    private static void tooFewBytes() {
        Probe.sentence("too few bytes: the length");
        for (Place place : PLACES) {
            Probe p = new Probe();
            List<String> cut = new ArrayList<>(List.of("", "41", "4200", "5801", "5b8000000000000000", "61", "7a00000002ff", "81", "8200", "98640000",
                "9f", "9f00", "a1", "a100", "a2000000", "bf", "bf00", "bf000000", "c0", "d801", "5f", "5f40", "5f41", "5f5801", "5f4100", "7f", "7f7a00000001", "f8", "f900"));
            for (int major = 0; major < 8; major++) {
                for (int info = 24; info < 28; info++) {
                    for (int n = 0; n < 1 << (info - 24); n++) cut.add(String.format("%02x", major << 5 | info) + "40".repeat(n));
                }
            }
            for (String hex : cut) {
                String all = place.before + hex;
                p.illFormed(all, all.length() / 2);
            }
        }
    }

    private static void tooDeep() {
        Probe.sentence("also the 201st item, the 11th in one another: at its first byte");
        for (String box : new String[] {"81", "a1", "c1", "9f", "bf", "db0000000000000001", "990001", "b801"}) {
            Probe p = new Probe();
            int bytes = box.length() / 2;
            p.illFormed(box.repeat(10) + "00", 10 * bytes);
            p.illFormed("c1" + box.repeat(9) + "00", 1 + 9 * bytes);
            p.illFormed("81" + box.repeat(9) + "1c", 1 + 9 * bytes);
            p.illFormed(box.repeat(11), 10 * bytes);
            // In the others a value would have to follow, or a BREAK.
            if (box.equals("81") || box.startsWith("c") || box.startsWith("d") || box.startsWith("99")) p.items(box.repeat(9) + "00", 10);
        }
        Probe p = new Probe();
        p.illFormed("a100".repeat(10) + "00", 19);
        p.illFormed("bf00".repeat(10) + "00", 19);
        p.items("a1".repeat(9) + "00" + "01".repeat(9), 19);
        p.items("a100".repeat(9) + "00", 19);
        p.items("9f".repeat(9) + "00" + "ff".repeat(9), 10);
        p.items("bf00".repeat(9) + "00" + "ff".repeat(9), 19);
        p.items("9f".repeat(10) + "ff".repeat(10), 10);
    }

    private static void tooMany() {
        // The last items of 200, and how many bytes behind the first of them the last one begins.
        for (String[] last : new String[][] {{"00", "1", "0"}, {"c000", "2", "1"}, {"8100", "2", "1"}, {"a10000", "3", "2"}, {"9f00ff", "2", "1"},
            {"bf0000ff", "3", "2"}, {"8181c000", "4", "3"}, {"a1008100", "4", "3"}, {"5f4100ff", "1", "0"}, {"f93c00", "1", "0"}, {"d90100d818a0", "3", "5"}}) {
            int n = 200 - 1 - 101 - 1 - Integer.parseInt(last[1]);
            String before = "83" + "9864" + "00".repeat(100);
            Probe p = new Probe();
            p.items(before + String.format("98%02x", n) + "00".repeat(n) + last[0], 200);
            String more = before + String.format("98%02x", n + 1) + "00".repeat(n + 1);
            p.illFormed(more + last[0], more.length() / 2 + Integer.parseInt(last[2]));
            p.illFormed("84" + more.substring(2) + last[0] + "00", more.length() / 2 + Integer.parseInt(last[2]));
        }
    }
}
