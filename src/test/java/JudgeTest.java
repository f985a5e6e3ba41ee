/** Promise 9: whether an item is as a type says (section 4 of THE TAPE). */
public final class JudgeTest {
    private static final Probe P = new Probe();

    public static void main(String[] args) {
        asked();
        numbers();
        ranges();
        strings();
        majors();
        tags();
        prelude();
        namesAndChoices();
        parameters();
        unwraps();
        ofGroups();
        sizes();
        bits();
        cbor();
        cborInCbor();
        cborseq();
        compared();
        also();
        Probe.finish();
    }

    private static void asked() {
        P.rules("a = int b = tstr g = (1, 2) c<p> = p d = c<int>", 5);
        P.item("82016161");
        int[][] due = {{0, 0, 0}, {0, 1, 1}, {0, 2, 0}, {1, 1, 0}, {1, 2, 1}, {2, 0, -1}, {3, 1, -1}, {4, 1, 1}, {4, 2, 0}, {0, 3, -1}, {0, -1, -1},
            {5, 0, -1}, {-1, 0, -1}, {-40, 0, -1}, {Integer.MAX_VALUE, 0, -1}, {Integer.MIN_VALUE, 0, -1}, {0, Integer.MAX_VALUE, -1},
            {0, Integer.MIN_VALUE, -1}, {0, 1024, -1}};
        for (int[] row : due) Probe.due("judge(" + row[0] + ", " + row[1] + ")", P.judge.judge(row[0], row[1]), row[2]);
        // What was found for one ITEM and one text holds no more for another one.
        P.item("82616101");
        Probe.due("another item", P.judge.judge(0, 1), 0);
        Probe.due("another item", P.judge.judge(0, 2), 1);
        P.rules("a = tstr", 1);
        Probe.due("other rules", P.judge.judge(0, 1), 1);
        Probe.due("other rules", P.judge.judge(0, 2), 0);
        Probe.due("no item before", new ItemJudge().judge(0, 0), -1);
    }

    private static void numbers() {
        P.says("a = 5").so("05", "1805", "1b0000000000000005");
        P.notSo("04", "24", "25", "4105", "6105", "8105", "c105", "f90005", "e5");
        P.says("a = -1").so("20", "3800");
        P.notSo("00", "01", "21");
        P.says("a = -0").so("00");
        P.notSo("20");
        P.says("a = 18446744073709551615").so("1bffffffffffffffff");
        P.notSo("3bffffffffffffffff", "00", "20");
        P.says("a = -18446744073709551615").so("3bfffffffffffffffe");
        P.notSo("3bffffffffffffffff", "1bffffffffffffffff");
        P.says("a = 0x1F").so("181f");
        P.says("a = 0b101").so("05");
        P.says("a = -0x10").so("2f");
    }

    private static void ranges() {
        P.says("a = 1..3").so("01", "02", "03", "1803");
        P.notSo("00", "04", "20", "6101", "f90001", "80");
        P.says("a = 1...3").so("01", "02");
        P.notSo("00", "03");
        P.says("a = -2..1").so("21", "20", "00", "01");
        P.notSo("22", "02");
        P.says("a = -3...-1").so("22", "21");
        P.notSo("23", "20", "00", "01");
        P.says("a = 3..1").notSo("01", "02", "03");
        P.says("a = 2..2").so("02");
        P.says("a = 2...2").notSo("02");
        P.says("a = -18446744073709551615..18446744073709551615").so("1bffffffffffffffff", "3bfffffffffffffffe", "00");
        P.notSo("3bffffffffffffffff");
        P.says("a = 9223372036854775807...9223372036854775809").so("1b7fffffffffffffff", "1b8000000000000000");
        P.notSo("1b8000000000000001", "1b7ffffffffffffffe");
    }

    private static void strings() {
        P.says("a = \"ab\"").so("626162", "7f61616162ff", "7f60626162ff", "78026162");
        P.notSo("426162", "6161", "63616263", "626163", "60", "7fff", "00");
        P.says("a = 'ab'").so("426162", "5f41614162ff");
        P.notSo("626162", "4161", "40");
        P.says("a = h'00 fF'").so("4200ff");
        P.says("a = \"\"").so("60", "7fff");
        P.notSo("40", "80");
        P.says("a = \"\\\"\\\\\\/\\b\\f\\n\\r\\t'\"").so("69225c2f080c0a0d0927");
        P.says("a = '\\'\\\\\\/\\b\\f\\n\\r\\t\"'").so("49275c2f080c0a0d0922");
    }

    private static void majors() {
        String[] items = {"05", "25", "4101", "6161", "8100", "a10000", "c100", "f4"};
        for (int major = 0; major < 8; major++) {
            if (major == 6) continue;
            P.says("a = #" + major);
            for (int i = 0; i < 8; i++) P.is(items[i], i == major ? 1 : 0);
        }
        P.says("a = #").so(items);
        P.says("a = #7").so("e0", "f820", "f90000", "fa00000000", "fb0000000000000000");
        P.says("a = #7.20").so("f4");
        P.notSo("f5", "14", "f90014", "fa00000014");
        P.says("a = #7.32").so("f820");
        P.notSo("f821", "f90020");
        P.says("a = #7.255").so("f8ff");
        P.says("a = #7.0").so("e0");
        P.says("a = #7.25").so("f90000", "f97e00");
        P.notSo("fa00000019", "f4", "fb0000000000000019", "1819");
        P.says("a = #7.26").so("fa00000000");
        P.notSo("f9001a", "fb000000000000001a");
        P.says("a = #7.27").so("fb0000000000000000");
        P.notSo("f9001b", "fa0000001b");
        for (String never : new String[] {"24", "28", "29", "30", "31", "256", "18446744073709551615"}) {
            P.says("a = #7." + never).notSo("f4", "f8ff", "f90000", "fa00000000", "fb0000000000000000", "e0");
        }
    }

    private static void tags() {
        P.says("a = #6.1(int)").so("c100", "d80100", "db000000000000000120");
        P.notSo("c200", "c16161", "00", "c1c100");
        P.says("a = #6(int / tstr)").so("c100", "dbffffffffffffffff6161");
        P.notSo("c140", "c1c100");
        P.says("a = #6.18446744073709551615(#6(any))").so("dbffffffffffffffffc100");
        P.notSo("dbffffffffffffffff00", "dbfffffffffffffffec100");
    }

    private static void prelude() {
        // The items in a row: the numbers of those that are so, for each NAME.
        String[] items = {"00", "20", "40", "60", "80", "a0", "f4", "f5", "f6", "f7", "f90000", "fa00000000", "fb0000000000000000", "c060", "c100", "c1f90000",
            "c240", "c340", "c4820120", "c58201c240", "c4820160", "d500", "d600", "d700", "d81840", "d82060", "d82160", "d82260", "d82360", "d82460", "d9d9f700",
            "c040", "e0", "c5810102"};
        String[][] so = {{"uint", "0"}, {"nint", "1"}, {"int", "0 1"}, {"bstr", "2"}, {"bytes", "2"}, {"tstr", "3"}, {"text", "3"}, {"tdate", "13"},
            {"time", "14 15"}, {"number", "0 1 10 11 12"}, {"biguint", "16"}, {"bignint", "17"}, {"bigint", "16 17"}, {"integer", "0 1 16 17"},
            {"unsigned", "0 16"}, {"decfrac", "18"}, {"bigfloat", "19"}, {"eb64url", "21"}, {"eb64legacy", "22"}, {"eb16", "23"}, {"encoded-cbor", "24"},
            {"uri", "25"}, {"b64url", "26"}, {"b64legacy", "27"}, {"regexp", "28"}, {"mime-message", "29"}, {"cbor-any", "30"}, {"float16", "10"},
            {"float32", "11"}, {"float64", "12"}, {"float16-32", "10 11"}, {"float32-64", "11 12"}, {"float", "10 11 12"}, {"false", "6"}, {"true", "7"},
            {"bool", "6 7"}, {"nil", "8"}, {"null", "8"}, {"undefined", "9"}};
        for (String[] row : so) {
            P.says("a = " + row[0]);
            for (int i = 0; i < items.length - 1; i++) P.is(items[i], (" " + row[1] + " ").contains(" " + i + " ") ? 1 : 0);
        }
        P.says("a = any");
        for (int i = 0; i < items.length - 1; i++) P.is(items[i], 1);
    }

    private static void namesAndChoices() {
        P.says("a = b / 1 b = c / 2 c = (3 / 4) a /= 5 c /= 6").so("01", "02", "03", "04", "05", "06");
        P.notSo("00", "07");
        P.says("a = $x / 1 $y = 2").so("01");
        P.notSo("00", "02");
        P.says("a = $y / 1 $y /= 2").so("01", "02");
        P.says("a = &$$g").notSo("00");
        // Rules that name others many times each: a power of seven, were each asked anew.
        StringBuilder rules = new StringBuilder();
        for (int i = 0; i < 13; i++) rules.append("r").append(i).append(" = r").append(i + 1).append(Probe.times(" / r" + (i + 1), 6)).append('\n');
        P.says(rules + "r13 = 5").so("05");
        P.notSo("06");
        P.says("a = [* a] / [+ [* a], 7]").so(Probe.times("81", 9) + "80");
        P.notSo(Probe.times("82", 7) + Probe.times("80", 7) + "05");
    }

    private static void parameters() {
        P.says("a = b<int, tstr> b<p, q> = [p, q] / {p => q}").so("82016161", "a1016161");
        P.notSo("82616101", "a1616101", "01");
        P.says("a = b<1> / b<2> b<p> = [p]").so("8101", "8102");
        P.notSo("8103", "01");
        P.says("a = b<int> b<p> = c<[p]> c<q> = q / [q]").so("8101", "818101");
        P.notSo("01", "81818101", "816161");
        P.says("a = b<1, 2> b<p, q> = c<int, [q], [p], q> c<p, q, r, s> = [p, q, r, s]").so("84008102810102");
        P.notSo("84008101810102", "84008102810101", "84008102810202");
        P.says("a = [b<1, tstr>, b<tstr, 1>] b<p, q> = c<3, {p => q}> c<p, q> = [q, p]").so("8282a10161610382a161610103");
        P.notSo("8282a16161010382a161610103");
        P.says("a = b<1, 2> b<p, q> = [p, ? b<q, p>]").so("8101", "82018102", "820182028101");
        P.notSo("8102", "82018101");
        P.says("a = [g<int, 1>] g<p, q> = (p, h<q>) h<p> = (p, p)").so("83070101");
        P.notSo("83070102", "83010701", "820701");
        P.says("a = b<(int / tstr), 1..3> b<p, q> = {* p => q}").so("a20001616103", "a0");
        P.notSo("a10004", "a14001");
        P.says("a = b<c> b<p> = [p] c = int").so("8101");
        P.says("a = b<int> b<p> = c<d<1>> c<q> = [q] d<q> = [q]").so("818101");
        P.notSo("8101", "818102");
        P.says("a<int> = int b = a<tstr>");
        P.item("6161");
        Probe.due("a parameter stands before the prelude's NAME", P.judge.judge(1, 0), 1);
        P.says("a = b<int> b<p> = {p: p}").so("a1617001");
        P.notSo("a10101", "a161706170");
    }

    private static void unwraps() {
        P.says("a = ~time / ~b b = c c = (#6.5((tstr)))").so("01", "f90000", "6161");
        P.notSo("c101", "c56161", "40");
        P.says("a = ~b<int> b<p> = #6.1([p])").so("8101");
        P.notSo("c18101", "816161");
        P.says("a = [1, * ~b, 4] b = ([2, 3])").so("820104", "8401020304", "86010203020304");
        P.notSo("83010204", "830182020304");
        P.says("a = {~b, x: 1} b = c c = {y: 2}").so("a2617801617902");
        P.notSo("a1617801", "a1617902");
        P.says("a = [~b] b = {x: int, 1 => tstr}").so("82016161");
        P.says("a = [~b<int>, (~b<tstr>)] b<p> = [p, p]").so("84010261616162");
        P.says("a = {~b} b = [? int]").so("a0");
        P.notSo("a10000");
    }

    private static void ofGroups() {
        P.says("a = &(x: 1, 5*2 2, ? 3 // \"y\": 4, (5, (z: 6 // 7)), g, ~h) g = (8, ? (9 / 10)) h = [11, [12]]");
        P.so("01", "02", "03", "04", "05", "06", "07", "08", "09", "0a", "0b", "810c");
        P.notSo("00", "0c", "6178", "6179", "810b");
        P.says("a = &g g = (x: 1, y: 2) g //= z: 3").so("01", "02", "03");
        P.notSo("00", "04");
        P.says("a = &g<1> g<p> = (p, x: [p])").so("01", "8101");
        P.says("a = &()").notSo("00", "80");
        P.says("a = &(// 1 //)").so("01");
    }

    private static void sizes() {
        P.says("a = bytes .size 2").so("420000", "5f41004100ff");
        P.notSo("4100", "43000000", "40", "626161");
        P.says("a = tstr .size (1..2)").so("6161", "62c3a9");
        P.notSo("60", "63616161");
        P.says("a = any .size 1").so("00", "18ff", "4100", "6161");
        P.notSo("190100", "20", "80", "8100", "a0", "c100", "f4", "f90000", "40");
        P.says("a = uint .size 0").so("00");
        P.notSo("01");
        P.says("a = uint .size 3").so("00", "1a00ffffff");
        P.notSo("1a01000000");
        P.says("a = uint .size 8").so("00", "1bffffffffffffffff");
        P.says("a = uint .size 9").notSo("00");
        P.says("a = uint .size (2 / 4)").so("19ffff", "1affffffff");
        P.notSo("1b0000000100000000");
        P.says("a = int .size 1").so("00");
        P.notSo("20", "190100");
        P.says("a = bstr .size b b = 1 / (c .and any) c = 3..4").so("4100", "43000000", "4400000000");
        P.notSo("40", "420000");
        P.says("a = bstr .size tstr").notSo("40", "4101");
        P.says("a = bstr .size #0").so("40", "4101");
        P.says("a = bstr .size (uint .size 1)").so("40", "58ff" + Probe.times("00", 255));
        P.notSo("590100" + Probe.times("00", 256));
        P.says("a = bstr .size (uint .bits (0 / 2))").so("40", "4100", "4400000000", "450000000000");
        P.notSo("420000");
    }

    private static void bits() {
        P.says("a = uint .bits (0 / 2)").so("00", "01", "04", "05");
        P.notSo("02", "03", "08", "190100", "20");
        P.says("a = bytes .bits (0 / 9)").so("40", "4100", "4101", "420102", "43000200");
        P.notSo("4102", "420101", "43010201");
        P.says("a = any .bits any").so("00", "1bffffffffffffffff", "41ff");
        P.notSo("20", "6161", "80", "f4", "c100");
        P.says("a = uint .bits 63").so("00", "1b8000000000000000");
        P.notSo("1b4000000000000000");
        P.says("a = bstr .bits &(a: 0, b: 7, c: 8)").so("4181", "428101");
        P.notSo("4102", "420002");
        P.says("a = bstr .bits 23975").so("590bb5" + Probe.times("00", 2996) + "80");
        P.notSo("590bb5" + Probe.times("00", 2996) + "40");
        P.says("a = bstr .bits tstr").so("40", "4100");
        P.notSo("4101");
    }

    private static void cbor() {
        P.says("a = bytes .cbor int").so("4101", "421818", "5f41184118ff", "4120");
        P.notSo("40", "420101", "4161", "4118", "411c", "426161", "01");
        P.says("a = any .cbor any").so("4180", "4100");
        P.notSo("6100", "00", "80", "41ff", "40");
        P.says("a = bytes .cbor [* tstr]").so("4180", "43816161", "449f6161ff");
        P.notSo("428101");
        // What is in bytes lies in their item: ten in one another, all in all.
        P.says("a = [* a] / bytes .cbor b b = [* b]").so("4180", Probe.times("81", 8) + "4180", "49" + Probe.times("81", 8) + "80");
        P.notSo(Probe.times("81", 9) + "4180", Probe.times("81", 8) + "428180");
        P.says("a = bytes .cbor any").so("49" + Probe.times("81", 8) + "80");
        P.notSo("4a" + Probe.times("81", 9) + "80");
        // It has its own 200.
        String most = "81b863" + Probe.times("0000", 99);
        P.says("a = [* bytes .cbor any]").so("8258c9" + most + "58c9" + most);
        P.notSo("8158ca81" + most, "8258c9" + most + "58ca81" + most);
    }

    private static void cborInCbor() {
        String once = "a = bytes .cbor b b = 1 / bytes .cbor c c = 1 / bytes .cbor d d = 1 / bytes .cbor e e = 1";
        P.says(once).so("4101", "424101", "43424101");
        P.notSo("4443424101", "4102");
        P.says("a = bytes .cbor a / 1").so("01", "4101", "424101", "43424101");
        P.notSo("4443424101");
        P.says("a = bytes .cborseq [* a] / 1").so("40", "4101", "4140", "424101", "424140", "43424001");
        P.notSo("4443424101", "4443424140");
        P.says("a = [* bytes .cbor (bytes .cbor b)] b = 1 / 2").so("82424101424102", "81424101");
        P.notSo("82424101424103", "824241014103");
    }

    private static void cborseq() {
        P.says("a = bytes .cborseq [* int]").so("40", "4101", "43010203", "5f41014102ff");
        P.notSo("4161", "426161", "420118", "4180", "80", "6101");
        P.says("a = any .cborseq any").so("40", "4100");
        P.notSo("41ff", "4118", "60");
        P.says("a = bytes .cborseq [int, tstr]").so("43016161");
        P.notSo("4101", "43616101");
        P.says("a = bytes .cborseq #4").so("40");
        P.says("a = bytes .cborseq (any .size 0)").notSo("40");
        P.says("a = bytes .cborseq [* any]").so("5864" + Probe.times("00", 100));
        P.notSo("5865" + Probe.times("00", 101));
        P.so("58c8" + Probe.times("8100", 100));
        P.notSo("58c9820000" + Probe.times("8100", 99));
        P.so("49" + Probe.times("81", 8) + "80");
        P.notSo("4a" + Probe.times("81", 9) + "80");
    }

    private static void compared() {
        P.says("a = int .lt 3").so("02", "00", "20", "3bffffffffffffffff");
        P.notSo("03", "04");
        P.says("a = any .le -3").so("22", "23");
        P.notSo("21", "03", "f90000", "60", "80");
        P.says("a = any .gt -3").so("21", "00", "1bffffffffffffffff");
        P.notSo("22", "23", "6161");
        P.says("a = any .ge 18446744073709551615").so("1bffffffffffffffff");
        P.notSo("1bfffffffffffffffe", "20");
        P.says("a = any .eq 3").so("03", "1803");
        P.notSo("04", "23", "6103");
        P.says("a = any .eq \"a\"").so("6161", "7f6161ff");
        P.notSo("4161");
        P.says("a = any .eq 'a'").so("4161");
        P.notSo("6161");
        P.says("a = any .ne 3").so("04", "6103", "80", "f4");
        P.notSo("03");
        P.says("a = tstr .ne \"a\"").so("6162", "60");
        P.notSo("6161", "03");
        P.says("a = uint .lt 3").notSo("20");
    }

    private static void also() {
        P.says("a = int .and (1..3)").so("01", "03");
        P.notSo("00", "04");
        P.says("a = (1..3) .within b b = 2..5").so("02", "03");
        P.notSo("01", "04");
        P.says("a = int .default 5").so("05", "06");
        P.notSo("6161");
        P.says("a = (int .gt 1) .and (int .lt 4) / 9").so("02", "03", "09");
        P.notSo("01", "04");
        P.says("a = ((bstr / tstr) .size 1) .ne \"a\"").so("6162", "4161");
        P.notSo("6161", "60");
    }
}
