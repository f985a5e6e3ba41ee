/** Section 4 of THE TAPE, sentence by sentence: when an item is as a type says, at the edges that it names and on both sides of them. */
public final class EdgeTypeTest {
    private static final Probe P = new Probe();

    public static void main(String[] args) {
        numbers();
        strings();
        ranges();
        majors();
        sevens();
        tags();
        choices();
        parameters();
        unwraps();
        ofGroups();
        firstAsT();
        sizesOfBytes();
        sizesOfNumbers();
        sizesAsNumbers();
        placesAsNumbers();
        bitsOfNumbers();
        bitsOfBytes();
        oneItem();
        deepItems();
        manyItems();
        fourTimes();
        sequences();
        longSequences();
        also();
        compared();
        same();
        Probe.finish();
    }

    private static String held(String hex) {
        return DearTest.held(hex);
    }

    /** A number of major 0 or 1 in its shortest form. */
    private static String number(int major, long n) {
        int m = major << 5;
        if (n >= 0 && n < 24) return String.format("%02x", m | (int) n);
        if (n >= 0 && n < 256) return String.format("%02x%02x", m | 24, n);
        if (n >= 0 && n < 65536) return String.format("%02x%04x", m | 25, n);
        return String.format("%02x%016x", m | 27, n);
    }

    private static String signed(int n) {
        return n < 0 ? number(1, -1 - n) : number(0, n);
    }

    private static void numbers() {
        Probe.sentence("NUMBER: that number, of major 0, 1.");
        for (int n : new int[] {0, 1, 23, 24, 255, 256, -1, -2, -24, -25, -256, -257}) {
            P.says("a = " + n).so(signed(n)).notSo(signed(n - 1), signed(n + 1), "c1" + signed(n), "81" + signed(n), "40", "60", "f90000", "e0", "f4");
        }
        P.says("a = 1").so("01", "1801", "190001", "1a00000001", "1b0000000000000001").notSo("20", "4101", "6131", "e1", "f93c00");
        P.says("a = 9223372036854775807").so("1b7fffffffffffffff").notSo("1b8000000000000000", "1b7ffffffffffffffe");
        P.says("a = 9223372036854775808").so("1b8000000000000000").notSo("1b7fffffffffffffff", "1b8000000000000001", "3b7fffffffffffffff");
        P.says("a = -9223372036854775808").so("3b7fffffffffffffff").notSo("3b8000000000000000", "1b8000000000000000");
        P.says("a = -9223372036854775809").so("3b8000000000000000").notSo("3b7fffffffffffffff", "1b7fffffffffffffff");
        P.says("a = 18446744073709551615").so("1bffffffffffffffff").notSo("1bfffffffffffffffe", "20", "3bffffffffffffffff");
        P.says("a = -18446744073709551615").so("3bfffffffffffffffe").notSo("3bffffffffffffffff", "3bfffffffffffffffd");
    }

    private static void strings() {
        Probe.sentence("TEXT, BYTES: major 3, 2 with these bytes.");
        P.says("a = \"ab\"").so("626162", "78026162", "7f626162ff", "7f61616162ff").notSo("6161", "63616263", "626163", "626262", "426162", "60", "00");
        P.says("a = 'ab'").so("426162", "5f41614162ff").notSo("4161", "43616263", "426163", "626162", "40");
        P.says("a = h'00ff'").so("4200ff").notSo("4100", "4300ff00", "6200ff", "42ff00");
        P.says("a = \"\"").so("60", "7fff", "7f60ff").notSo("6100", "40");
        P.says("a = ''").so("40", "5fff").notSo("4100", "60");
    }

    private static void ranges() {
        Probe.sentence("a .. b: a number of major 0, 1 from a to b; a ... b: below b.");
        for (int from = -3; from <= 3; from++) {
            for (int to = -3; to <= 3; to++) {
                P.says("a = " + from + ".." + to + " b = " + from + "..." + to);
                for (int n = -5; n <= 5; n++) {
                    P.item(signed(n));
                    Probe.due(n + " from " + from + " to " + to, P.judge.judge(0, 0), n >= from && n <= to ? 1 : 0);
                    Probe.due(n + " from " + from + ", below " + to, P.judge.judge(1, 0), n >= from && n < to ? 1 : 0);
                }
            }
        }
        P.says("a = 0..3").notSo("4101", "6131", "f90001", "e1", "c101", "8101");
        P.says("a = 255..256").so("18ff", "190100").notSo("18fe", "190101");
        P.says("a = 9223372036854775807..9223372036854775808").so("1b7fffffffffffffff", "1b8000000000000000").notSo("1b7ffffffffffffffe", "1b8000000000000001", "3b7fffffffffffffff");
        P.says("a = 9223372036854775807...9223372036854775808").so("1b7fffffffffffffff").notSo("1b7ffffffffffffffe", "1b8000000000000000");
        P.says("a = 0..18446744073709551615").so("00", "1bffffffffffffffff").notSo("20", "3bffffffffffffffff");
        P.says("a = 0...18446744073709551615").so("00", "1bfffffffffffffffe").notSo("1bffffffffffffffff");
        P.says("a = -18446744073709551615..-1").so("20", "3bfffffffffffffffe").notSo("3bffffffffffffffff", "00");
        P.says("a = -18446744073709551615...-18446744073709551614").so("3bfffffffffffffffe").notSo("3bfffffffffffffffd", "3bffffffffffffffff");
    }

    private static void majors() {
        Probe.sentence("#: any; #0 .. #7: of that major");
        String[] items = {"00", "20", "40", "60", "80", "a0", "c000", "e0"};
        for (int m = 0; m < 8; m++) {
            if (m == 6) P.says("a = #6(#)");
            else P.says("a = #" + m);
            for (int i = 0; i < 8; i++) P.is(items[i], i == m ? 1 : 0);
        }
        P.says("a = #").so(items).so("1bffffffffffffffff", "9fff", "bfff", "5fff", "fb0000000000000000", "f8ff");
        P.says("a = #7").so("f4", "f7", "f820", "f8ff", "f90000", "fa00000000", "fb0000000000000000");
    }

    private static void sevens() {
        Probe.sentence("#7.n: the simple value n (n below 24, or above 31), a float of 2, 4, 8 bytes (25, 26, 27; others never).");
        String[] floats = {"f90000", "f90019", "fa00000000", "fa0000001a", "fb0000000000000000", "fb000000000000001b"};
        for (int n = 0; n < 260; n++) {
            P.says("a = #7." + n);
            boolean simple = n < 24 || n > 31 && n < 256;
            for (int value : new int[] {n - 1, n, n + 1}) {
                if (value < 0 || value > 255 || value > 23 && value < 32) continue;
                P.is(value < 24 ? String.format("%02x", 0xe0 + value) : String.format("f8%02x", value), simple && value == n ? 1 : 0);
            }
            for (int i = 0; i < 6; i++) P.is(floats[i], n == 25 + i / 2 ? 1 : 0);
            P.is(number(0, n), 0);
        }
        P.says("a = #7.4294967296").notSo("e0", "f90000");
        P.says("a = #7.18446744073709551615").notSo("e0", "f8ff", "fbffffffffffffffff");
    }

    private static void tags() {
        Probe.sentence("#6.n ( t ): a tag n, its item as t; #6 ( t ) any tag.");
        for (int n : new int[] {0, 1, 23, 24, 255, 256}) {
            P.says("a = #6." + n + "(5)");
            for (int tag : new int[] {n - 1, n, n + 1}) {
                if (tag < 0) continue;
                P.is(number(6, tag) + "05", tag == n ? 1 : 0);
                P.is(number(6, tag) + "06", 0);
            }
            P.notSo("05", "8105", number(6, n) + number(6, n) + "05");
        }
        P.says("a = #6.18446744073709551615(5)").so("dbffffffffffffffff05").notSo("dbfffffffffffffffe05", "dbffffffffffffffff06");
        P.says("a = #6(5)").so("c005", "c105", "dbffffffffffffffff05").notSo("c006", "05", "c0c005");
        P.says("a = #6.1(#6(5))").so("c1c905", "c1c105").notSo("c9c105", "c105");
    }

    private static void choices() {
        Probe.sentence("t / u: as one of them.");
        P.says("a = 1 / 2").so("01", "02").notSo("00", "03");
        P.says("a = 1 / 1").so("01").notSo("02");
        P.says("a = 1" + Probe.times(" / 1", 147) + " / 2").so("01", "02").notSo("03");
        P.says("a = 2" + Probe.times(" / 1", 148)).so("01", "02").notSo("03");
        P.says("a = $x / $y / 3").so("03").notSo("01");
    }

    private static void parameters() {
        Probe.sentence("NAME: as its TYPE, its parameters standing for what is told in < >.");
        P.says("a = b b = 1").so("01").notSo("02");
        P.says("a = b<1> b<p> = p").so("01").notSo("02");
        P.says("a = b<1, 2> b<p, q> = [p, q]").so("820102").notSo("820201", "820101", "820202");
        P.says("a = b<1, 2, 3, 4, 5, 6, 7, 8> b<p1, p2, p3, p4, p5, p6, p7, p8> = [p8, p7, p6, p5, p4, p3, p2, p1]").so("880807060504030201").notSo("880102030405060708", "880807060504030202");
        P.says("a = [b<1>, b<2>] b<p> = p").so("820102").notSo("820101", "820201", "820202");
        P.says("a = b<1> b<p> = c<p, 2> c<p, q> = [q, p]").so("820201").notSo("820102");
        P.says("a = b<1> b<p> = c<[p]> c<p> = [p]").so("818101").notSo("8101", "81818101");
        P.says("a = b<1> b<int> = int / 7").so("01", "07").notSo("02");
        P.says("a = b<1> b<c> = c c = 2").so("01").notSo("02");
        P.says("a = [b<1>, b<2>] b<p> = c<7, [p]> c<q, r> = [q, r]").so("82820781018207" + "8102").notSo("828207810182078101", "828207810282078102", "828207810282078101");
        P.says("a = [b<1, 2>, b<1, 3>] b<p, q> = c<[q]> c<r> = r").so("8281028103").notSo("8281028102", "8281038102", "8281018101");
        P.says("a = [b<1>, b<2>] b<p> = c<d<3>> c<q> = [q] d<q> = [q]").so("82818103818103").notSo("82818101818102", "82818103818102");
        // Whatever a parameter stands in.
        String[] forms = {"p", "(p)", "9 / p", "p / 9", "[p]", "[9 // p]", "[9, p]", "[p, 9]", "[(9, p)]", "{p => 9}", "{9 => p}", "{(p) ^ => 9}", "{? (p => 9)}", "#6(p)", "#6.1([p])", "&(9, p)", "&(9 // x: p)",
            "# .and p", "p .and #", "# .size p", "# .bits p", "# .cbor p", "# .cborseq [p]", "c<p>", "c<[p]>", "c<9> / c<p>", "~d<p>", "&g<p>", "[g<p>]", "{h<p>}", "9 / # .within [p]"};
        String[] ones = {"01", "01", "01", "01", "8101", "8101", "820901", "820109", "820901", "a10109", "a10901", "a10109", "a10109", "c501", "c18101", "01", "01", "01", "01", "4100", "02", "4101", "4101", "01", "8101",
            "01", "01", "01", "820901", "a10109", "8101"};
        String[] twos = {"02", "02", "02", "02", "8102", "8102", "820902", "820209", "820902", "a10209", "a10902", "a10209", "a10209", "c502", "c18102", "02", "02", "02", "02", "420000", "04", "4102", "4102", "02",
            "8102", "02", "02", "02", "820902", "a10209", "8102"};
        String more = " c<q> = q d<q> = #6(q) g<q> = (9, q) h<q> = (q => 9)";
        for (int i = 0; i < forms.length; i++) {
            P.says("a = [b<1>, b<2>, b<1>] b<p> = " + forms[i] + more).so("83" + ones[i] + twos[i] + ones[i]);
            P.notSo("83" + ones[i] + ones[i] + ones[i], "83" + twos[i] + twos[i] + twos[i], "83" + twos[i] + ones[i] + twos[i]);
            P.says("a = b<1> / [b<2>] b<p> = " + forms[i] + more).so(ones[i], "81" + twos[i]).notSo(twos[i]);
        }
        P.says("a = b<c> b<p> = p c = 2").so("02").notSo("01");
    }

    private static void unwraps() {
        Probe.sentence("~ NAME: as what is in #6 ( ).");
        P.says("a = ~b b = #6.1(5)").so("05").notSo("c105", "06", "c205");
        P.says("a = ~b b = #6(5 / 7)").so("05", "07").notSo("c005", "06");
        P.says("a = ~b b = #6.1(#6.2(5))").so("c205").notSo("05", "c1c205", "c105");
        P.says("a = ~b b = c c = (#6(5))").so("05").notSo("c005");
        P.says("a = ~b<5> b<p> = #6(p)").so("05").notSo("06", "c005");
        P.says("a = ~time").so("00", "20", "f90000").notSo("c100", "60");
        P.says("a = ~uri").so("60").notSo("d82060", "40");
    }

    private static void ofGroups() {
        Probe.sentence("& of a group: as the type of one of its entries (also in groups within, in each choice; keys and OCCURS do not count).");
        P.says("a = &(1)").so("01").notSo("02", "8101");
        P.says("a = &()").notSo("00", "80", "60");
        P.says("a = &(//)").notSo("00");
        P.says("a = &(1, 2)").so("01", "02").notSo("03", "820102");
        P.says("a = &(1 // 2, 3)").so("01", "02", "03").notSo("04");
        P.says("a = &(x: 1)").so("01").notSo("6178", "02");
        P.says("a = &(5 => 1, 6: 2)").so("01", "02").notSo("05", "06");
        P.says("a = &(0*0 1, 2*1 2, ? 3, 9* 4)").so("01", "02", "03", "04").notSo("05");
        P.says("a = &((1, (2 // 3)), 4)").so("01", "02", "03", "04").notSo("05");
        P.says("a = &(g, 4) g = (1, h) h = (2 // x: 3)").so("01", "02", "03", "04").notSo("05");
        P.says("a = &g g = (1, 2) g //= 3").so("01", "02", "03").notSo("04");
        P.says("a = &g<1> g<p> = (p, 2)").so("01", "02").notSo("03");
        P.says("a = &(~b) b = [1, 2]").so("01", "02").notSo("820102", "03");
        P.says("a = &(~b) b = {5 => 1, x: 2}").so("01", "02").notSo("05", "03");
        P.says("a = &([1], {2 => 2})").so("8101", "a10202").notSo("01", "02");
        P.says("a = &(0*0 (1, 2), 2*1 g) g = (3, 4)").so("01", "02", "03", "04").notSo("05");
    }

    private static void firstAsT() {
        Probe.sentence("t CONTROL c: an item as t, and:");
        String[] controls = {"size 1", "bits #", "cbor #", "cborseq #", "within #", "and #", "lt 9", "le 9", "gt 0", "ge 0", "eq 5", "ne 6", "default 5"};
        String[] items = {"4105", "05", "4105", "4105", "05", "05", "05", "05", "05", "05", "05", "05", "05"};
        for (int i = 0; i < controls.length; i++) {
            String item = items[i];
            P.says("a = # ." + controls[i]).so(item);
            P.says("a = tstr ." + controls[i]).notSo(item);
            P.says("a = (tstr / #7) ." + controls[i]).notSo(item);
            P.says("a = (tstr / # ." + controls[i] + ") ." + controls[i]).so(item);
            P.says("a = $x ." + controls[i]).notSo(item);
        }
    }

    private static void sizesOfBytes() {
        Probe.sentence("size: bytes or text: how many bytes is (as a number) as c;");
        for (int n : new int[] {0, 1, 2, 23, 24, 63, 64, 65, 127, 128, 255, 256, 257}) {
            P.says("a = # .size " + n + " b = # .size (" + n + ".." + (n + 1) + ") c = # .size (" + (n - 1) + "..." + n + ") d = # .size (# .ge " + n + ")");
            for (int k = Math.max(0, n - 2); k <= n + 2; k++) {
                String bytes = held(Probe.times("ab", k));
                for (int m = 0; m < 2; m++) {
                    P.item(m == 0 ? bytes : String.format("%02x", Integer.parseInt(bytes.substring(0, 2), 16) + 32) + bytes.substring(2));
                    Probe.due(k + " bytes .size " + n, P.judge.judge(0, 0), k == n ? 1 : 0);
                    Probe.due(k + " bytes .size from " + n, P.judge.judge(1, 0), k == n || k == n + 1 ? 1 : 0);
                    Probe.due(k + " bytes .size below " + n, P.judge.judge(2, 0), k == n - 1 ? 1 : 0);
                    Probe.due(k + " bytes .size least " + n, P.judge.judge(3, 0), k >= n ? 1 : 0);
                }
            }
        }
        P.says("a = # .size 2").so("62c3a9", "5f41004100ff", "7f60626162ff").notSo("61c3", "5f4100ff", "5fff");
        P.says("a = # .size 2996").so("590bb4" + Probe.times("00", 2996)).notSo("590bb3" + Probe.times("00", 2995), "590bb5" + Probe.times("00", 2997));
        P.says("a = # .size 2997").so("590bb5" + Probe.times("00", 2997)).notSo("590bb4" + Probe.times("00", 2996));
        P.says("a = # .size -1").notSo("40", "4100", "00");
        P.says("a = # .size #0").so("40", "60", "00").notSo("80", "20", "f4", "a0", "c000");
        P.says("a = # .size #1").notSo("40", "60", "00");
        P.says("a = # .size tstr").notSo("40", "60", "00");
        P.says("a = #2 .size 1").so("4100").notSo("6100", "01", "40");
    }

    private static void sizesOfNumbers() {
        Probe.sentence("a number of major 0: it is below 256^n for an n 0 .. 8 that is as c; others never.");
        for (int n = 0; n <= 9; n++) {
            P.says("a = # .size " + n + " b = # .size (" + n + "..100) c = # .size (" + n + ".." + n + ")");
            for (int w = 0; w <= 8; w++) {
                // The greatest number of w bytes, and the next one.
                String most = w == 0 ? "00" : "1b" + Probe.times("00", 8 - w) + Probe.times("ff", w);
                String next = w == 8 ? "1b8000000000000000" : "1b" + Probe.times("00", 7 - w) + "01" + Probe.times("00", w);
                P.item(most);
                Probe.due(most + " .size " + n, P.judge.judge(0, 0), n <= 8 && w <= n ? 1 : 0);
                Probe.due(most + " .size from " + n, P.judge.judge(1, 0), n <= 8 ? 1 : 0);
                Probe.due(most + " .size within " + n, P.judge.judge(2, 0), n <= 8 && w <= n ? 1 : 0);
                P.item(next);
                Probe.due(next + " .size " + n, P.judge.judge(0, 0), n <= 8 && (w == 8 ? 8 : w + 1) <= n ? 1 : 0);
            }
        }
        P.says("a = uint .size 1").so("18ff", "00").notSo("190100");
        P.says("a = # .size 0").so("00", "40", "60").notSo("01", "1b8000000000000000");
        P.says("a = # .size (9..20)").notSo("00", "01", "1bffffffffffffffff").so("49" + Probe.times("00", 9));
        P.says("a = # .size (1 / 9)").so("01", "18ff").notSo("190100");
        P.says("a = # .size #").so("00", "1bffffffffffffffff", "40").notSo("20", "3bffffffffffffffff", "80", "a0", "c000", "e0", "f4", "f90000");
        P.says("a = # .size 8").notSo("20", "80", "fb0000000000000000").so("1bffffffffffffffff", "480000000000000000");
    }

    // Types of numbers of each kind, near 0, near 64 and near 256; n stands for one of these.
    private static final String[] NUMBERS = {"n", "n..(n+1)", "(n-1)...n", "n / 3", "3 / n", "(n)", "c", "c / d", "e<n>", "~f", "~g<n>", "&h", "&(7, n // x: n)", "&k<n>", "# .lt n", "# .le n", "# .gt n", "# .ge n",
        "# .eq n", "# .ne n", "# .default 5", "n .default #1", "n .and #", "# .and n", "(0..n) .and (n..400)", "# .within c", "#0", "#1", "#3", "#", "tstr", "[n]", "{n => n}", "#6(n)", "#7.20", "$x", "&$$x", "p .and q",
        "# .lt -1", "# .gt -1", "# .le -1", "# .ge -1", "# .eq -1", "# .ne -1", "-1", "-5..n", "-5...n", "-5..-1", "n..-1", "# .eq \"x\"", "# .ne \"x\"", "# .cbor n", "# .size 0", "# .size 1", "# .size 2", "# .size 3",
        "# .size (0 / 2)", "# .size 9", "# .size #1", "# .bits (0 / 1 / 6)", "# .bits 0", "# .bits #", "# .bits #1", "# .bits (3..8)", "# .bits 64", "# .lt 18446744073709551615", "# .gt 18446744073709551615",
        "0..18446744073709551615", "n..18446744073709551615", "n...18446744073709551615", "# .size (# .size 1)", "# .bits (# .bits 1)", "(# .lt 70) .size 1", "(# .gt n) .bits (0..5)", "(# .and (# .ne n)) .lt 300"};
    private static final String MORE = " c = n d = 9 / (10) e<r> = r f = #6.1(n / 4) g<r> = #6(r) h = (n, x: 2) k<r> = (r, 2) p = q / n q = 0..300";

    /** A type of numbers, for one n. */
    private static String typeOf(String type, int n) {
        String more = (type + MORE).replace("(n+1)", "" + (n + 1)).replace("(n-1)", "" + (n - 1));
        return more.replaceAll("\\bn\\b", "" + n);
    }

    private static void sizesAsNumbers() {
        Probe.sentence("how many bytes is (as a number) as c;");
        for (int n : new int[] {1, 64, 256}) {
            for (String type : NUMBERS) {
                P.says("a = # .size aa b = aa aa = " + typeOf(type, n));
                for (int k : new int[] {0, 1, 2, 3, 4, 5, 8, 9, 62, 63, 64, 65, 66, 127, 128, 254, 255, 256, 257, 300, 301}) {
                    P.item("82" + held(Probe.times("ab", k)) + number(0, k));
                    Probe.due(k + " bytes .size " + typeOf(type, n), P.judge.judge(0, 1), P.judge.judge(1, 2));
                }
                // A number is so if one of the n 0 .. 8 is for which it is below 256^n.
                for (int w = 0; w <= 8; w++) {
                    P.item("82" + (w == 0 ? "00" : "1b" + Probe.times("00", 8 - w) + "01" + Probe.times("00", w - 1)) + "00");
                    int due = 0;
                    long got = P.judge.judge(0, 1);
                    for (int k = w; k <= 8; k++) {
                        P.item(number(0, k));
                        due |= P.judge.judge(1, 0);
                    }
                    Probe.due("a number of " + w + " bytes .size " + typeOf(type, n), got, due);
                }
            }
        }
    }

    private static void placesAsNumbers() {
        Probe.sentence("its place (bit 0 the lowest of the first byte, or of the number) is as c;");
        for (int n : new int[] {1, 64, 256}) {
            for (String type : NUMBERS) {
                P.says("a = # .bits aa b = aa aa = " + typeOf(type, n));
                for (int k : new int[] {0, 1, 2, 3, 4, 5, 8, 9, 62, 63, 64, 65, 66, 127, 128, 254, 255, 256, 257, 300, 301}) {
                    P.item("83" + held(Probe.times("00", k / 8) + String.format("%02x", 1 << k % 8)) + number(0, k) + (k < 64 ? String.format("1b%016x", 1L << k) : "00"));
                    int due = P.judge.judge(1, 2);
                    Probe.due("bit " + k + " .bits " + typeOf(type, n), P.judge.judge(0, 1), due);
                    Probe.due("number's bit " + k + " .bits " + typeOf(type, n), P.judge.judge(0, 3), k < 64 ? due : 1);
                }
            }
        }
    }

    private static void bitsOfNumbers() {
        Probe.sentence("bits: bytes, a number of major 0: for each bit that is set, its place (bit 0 the lowest of the first byte, or of the number) is as c; others never.");
        for (int k = 0; k < 64; k++) {
            P.says("a = # .bits " + k).so("00", "40", String.format("1b%016x", 1L << k));
            if (k > 0) P.notSo(String.format("1b%016x", 1L << k - 1), String.format("1b%016x", 1L << k | 1L << k - 1));
            if (k < 63) P.notSo(String.format("1b%016x", 1L << k + 1), String.format("1b%016x", 1L << k | 1L << k + 1));
        }
        P.says("a = # .bits 64").so("00").notSo("01", "1b8000000000000000");
        P.says("a = # .bits (0..62)").so("1b7fffffffffffffff").notSo("1b8000000000000000", "1bffffffffffffffff");
        P.says("a = # .bits (0..63)").so("1bffffffffffffffff", "1b8000000000000000", "00");
        P.says("a = # .bits (0...63)").so("1b7fffffffffffffff").notSo("1b8000000000000000");
        P.says("a = # .bits (0 / 2)").so("00", "01", "04", "05").notSo("02", "03", "06", "07", "08");
        P.says("a = # .bits #").so("00", "1bffffffffffffffff", "41ff", "40").notSo("20", "60", "61ff", "80", "a0", "c000", "e0", "f4", "f90000");
        P.says("a = # .bits tstr").so("00", "40", "4100").notSo("01", "4101");
        P.says("a = # .bits -1").so("00", "40").notSo("01", "4101", "20");
    }

    private static void bitsOfBytes() {
        Probe.sentence("(bit 0 the lowest of the first byte, or of the number)");
        int n = 66;
        for (int k = 0; k < 8 * n; k += k < 40 || k > 500 ? 1 : 37) {
            P.says("a = # .bits " + k);
            for (int bit : new int[] {k - 8, k - 1, k, k + 1, k + 8}) {
                if (bit < 0 || bit >= 8 * n) continue;
                StringBuilder bytes = new StringBuilder();
                for (int i = 0; i < n; i++) bytes.append(String.format("%02x", i == bit / 8 ? 1 << bit % 8 : 0));
                P.is(held(bytes.toString()), bit == k ? 1 : 0);
            }
        }
        P.says("a = # .bits (0..7)").so("41ff", "4100", "40", "42ff00").notSo("420001", "42ff80");
        P.says("a = # .bits (8..15)").so("4200ff", "4100").notSo("4101", "420100", "43000001");
        P.says("a = # .bits (0..23974)").so("590bb5" + Probe.times("ff", 2996) + "7f").notSo("590bb5" + Probe.times("ff", 2997));
        P.says("a = # .bits (0..23975)").so("590bb5" + Probe.times("ff", 2997));
        P.says("a = # .bits 0").so("5f41014100ff").notSo("5f41004101ff");
    }

    private static void oneItem() {
        Probe.sentence("cbor: bytes that are one WELL-FORMED item as c;");
        P.says("a = # .cbor 5").so("4105", "421805", "5f4105ff", "5f41184105ff").notSo("40", "4106", "420505", "420500", "4118", "411c", "6105", "05", "8105");
        P.says("a = # .cbor #").so("4100", "4180", "429fff", "581857" + Probe.times("00", 23)).notSo("40", "420000", "41ff", "411f", "4118", "4141", "429f00", "42f800", "43f82000", "449fffff00");
        P.says("a = # .cbor [5]").so("428105", "439f05ff").notSo("428106", "4180");
        P.says("a = #3 .cbor #").notSo("6100", "60");
        P.says("a = [*(# .cbor 5)]").so("8241054105", "80").notSo("8241054106");
        P.says("a = # .cbor #").so("58669864" + Probe.times("00", 100)).notSo("58679865" + Probe.times("00", 101), "41f8");
    }

    private static void deepItems() {
        Probe.sentence("what is in them lies in the bytes' item for the 10 in one another (the array of cborseq does not count)");
        P.says("a = [*a] / {*# => a} / #6(a) / # .cbor b b = [*b] / 5 c = [*c] / # .cborseq [*b]");
        for (int around = 0; around < 10; around++) {
            for (int inside = 0; inside < 10; inside++) {
                // The bytes are the next behind those around, the number the next behind those inside.
                int deep = around + 1 + inside + 1;
                String bytes = held(Probe.times("81", inside) + "05");
                P.is(Probe.times("81", around) + bytes, deep <= 10 ? 1 : 0);
                Probe.due("sequence in " + around + ", with " + inside + " inside", P.judge.judge(2, 0), deep <= 10 ? 1 : 0);
                P.is(Probe.times("c1", around) + bytes, deep <= 10 ? 1 : 0);
            }
        }
        // Bytes in bytes: each is one more.
        P.says("a = [*a] / # .cbor a / 5").so(Probe.times("81", 6) + held(held(held("05")))).notSo(Probe.times("81", 7) + held(held(held("05"))));
        P.says("a = [*a] / # .cborseq a / 5").so(Probe.times("81", 6) + held(held(held("05")))).notSo(Probe.times("81", 7) + held(held(held("05"))));
        P.says("a = # .cbor b b = [*b] / 5 / # .cbor b").so(held(Probe.times("81", 7) + held("05"))).notSo(held(Probe.times("81", 8) + held("05")));
    }

    private static void manyItems() {
        Probe.sentence("and has its own 200;");
        String list = "9864" + Probe.times("00", 100);
        String most = "82" + list + "9861" + Probe.times("00", 97);
        P.says("a = # .cbor # b = [*(# .cbor #)]");
        P.is(held(most), 1);
        P.is(held("82" + list + "9860" + Probe.times("00", 96)), 1);
        P.is(held("82" + list + "9862" + Probe.times("00", 98)), 0);
        P.items("82" + held(most) + held(most), 3);
        Probe.due("twice 200", P.judge.judge(1, 0), 1);
        P.items("9864" + held(list) + Probe.times("4100", 99), 101);
        Probe.due("bytes with 101 and with 1", P.judge.judge(1, 0), 1);
        // Neither do the ITEM's own 200 count.
        P.says("a = [[* 0], [*(# .cbor #)]]").so("82" + list + "9861" + Probe.times("4100", 96) + held(most));
    }

    private static void fourTimes() {
        Probe.sentence("the fourth cbor, cborseq within one another is never so.");
        P.says("a = # .cbor (# .cbor 5)").so("424105").notSo("4105");
        P.says("a = # .cbor (# .cbor (# .cbor 5))").so("43424105").notSo("424105");
        P.says("a = # .cbor (# .cbor (# .cbor (# .cbor 5)))").notSo("4443424105", "43424105");
        P.says("a = # .cbor (# .cbor (# .cbor (# .cbor # / 7)))").so("43424107").notSo("4443424105");
        P.says("a = # .cbor a / 5").so("05", "4105", "424105", "43424105").notSo("4443424105", "454443424105");
        P.says("a = # .cborseq [*a] / 5").so("05", "40", "4105", "424105", "43424105", "4140", "424140").notSo("4443424105", "43424140", "4443424140");
        P.says("a = # .cborseq [*b] b = # .cbor c c = # .cborseq [*d] d = # .cbor 5 / 6").so("43424106").notSo("4443424105");
        P.says("a = # .cbor [# .cbor [# .cbor [b]]] b = # .cbor 5 / 6").so(held("81" + held("81" + held("8106")))).notSo(held("81" + held("81" + held("81" + held("05")))));
        // Beside one another they may be as many as can be.
        P.says("a = [*(# .cbor (# .cbor (# .cbor 5)))]").so("84" + Probe.times("43424105", 4)).notSo("84" + Probe.times("43424105", 3) + "43424106");
        P.says("a = (((# .cbor #) .cbor #) .cbor #) .cbor 5").so("4105").notSo("4106", "05");
    }

    private static void sequences() {
        Probe.sentence("cborseq: bytes that are items one behind the other, an array of these being as c (of none, too;");
        P.says("a = # .cborseq [* 5]").so("40", "5fff", "4105", "420505", "5f41054105ff").notSo("4106", "420506", "4118", "41ff", "60", "6105", "05", "80", "8105");
        P.says("a = # .cborseq []").so("40").notSo("4100", "4180");
        P.says("a = # .cborseq [5, 6]").so("420506").notSo("4105", "43050607", "420605", "43820506");
        P.says("a = # .cborseq #").so("40", "4100", "420000").notSo("4118", "4200ff", "42001c");
        P.says("a = # .cborseq #4").so("40", "4100", "4180");
        P.says("a = # .cborseq #5").notSo("40", "4100", "41a0");
        P.says("a = # .cborseq ([5] / [6])").so("4105", "4106").notSo("40", "420506");
        P.says("a = # .cborseq {}").notSo("40", "41a0");
    }

    private static void longSequences() {
        Probe.sentence("not more than 100, all in all 200 items); others never;");
        P.says("a = # .cborseq [*#]");
        P.is(held(Probe.times("00", 99)), 1);
        P.is(held(Probe.times("00", 100)), 1);
        P.is(held(Probe.times("00", 101)), 0);
        P.is(held(Probe.times("8100", 100)), 1);
        P.is(held(Probe.times("8100", 99) + "820000"), 0);
        P.is(held("820000" + Probe.times("8100", 99)), 0);
        P.is(held("820000" + Probe.times("8100", 98) + "00"), 1);
        P.is(held("9864" + Probe.times("00", 100) + Probe.times("00", 99)), 1);
        P.is(held("9864" + Probe.times("00", 100) + "9862" + Probe.times("00", 98)), 1);
        P.is(held("9864" + Probe.times("00", 100) + "9863" + Probe.times("00", 99)), 0);
        P.notSo("00", "60", "80", "a0", "f4", "c000");
    }

    private static void also() {
        Probe.sentence("within, and: as c, too.");
        for (String name : new String[] {"within", "and"}) {
            P.says("a = (1..3) ." + name + " (2..4)").so("02", "03").notSo("01", "04", "00", "05");
            P.says("a = 1 ." + name + " 2").notSo("01", "02");
            P.says("a = # ." + name + " 2").so("02").notSo("01");
            P.says("a = 2 ." + name + " #").so("02").notSo("01");
        }
        Probe.sentence("default: nothing more.");
        P.says("a = (1..3) .default 2").so("01", "02", "03").notSo("00", "04");
        P.says("a = 1 .default tstr").so("01").notSo("60");
    }

    private static void compared() {
        Probe.sentence("lt le gt ge: a number of major 0, 1 that is so to c.");
        for (int c = -3; c <= 3; c++) {
            P.says("a = # .lt " + c + " b = # .le " + c + " c = # .gt " + c + " d = # .ge " + c);
            for (int n = -5; n <= 5; n++) {
                P.item(signed(n));
                Probe.due(n + " .lt " + c, P.judge.judge(0, 0), n < c ? 1 : 0);
                Probe.due(n + " .le " + c, P.judge.judge(1, 0), n <= c ? 1 : 0);
                Probe.due(n + " .gt " + c, P.judge.judge(2, 0), n > c ? 1 : 0);
                Probe.due(n + " .ge " + c, P.judge.judge(3, 0), n >= c ? 1 : 0);
            }
            for (String other : new String[] {"40", "4100", "60", "80", "a0", "c000", "e0", "f4", "f90000", "fbffffffffffffffff"}) {
                P.item(other);
                for (int k = 0; k < 4; k++) Probe.due(other + " compared, rule " + k, P.judge.judge(k, 0), 0);
            }
        }
        P.says("a = # .lt 9223372036854775808").so("1b7fffffffffffffff", "00", "3bffffffffffffffff").notSo("1b8000000000000000", "1bffffffffffffffff");
        P.says("a = # .ge 18446744073709551615").so("1bffffffffffffffff").notSo("1bfffffffffffffffe", "3bffffffffffffffff");
        P.says("a = # .gt 18446744073709551615").notSo("1bffffffffffffffff", "3bffffffffffffffff");
        P.says("a = # .lt -18446744073709551615").so("3bffffffffffffffff").notSo("3bfffffffffffffffe", "00");
        P.says("a = # .le -18446744073709551615").so("3bffffffffffffffff", "3bfffffffffffffffe").notSo("3bfffffffffffffffd");
        P.says("a = # .gt -18446744073709551615").so("3bfffffffffffffffd", "00").notSo("3bfffffffffffffffe", "3bffffffffffffffff");
        P.says("a = (1..5) .lt 3").so("01", "02").notSo("00", "03", "20");
    }

    private static void same() {
        Probe.sentence("eq: the same as c; ne: not.");
        String[] items = {"05", "1805", "24", "06", "04", "6161", "7f6161ff", "4161", "5f4161ff", "6162", "60", "40", "80", "e5", "f90005", "c105"};
        int[][] due = {{1, 1, 0, 0, 0, 0, 0, 0, 0, 0, 0, 0, 0, 0, 0, 0}, {0, 0, 1, 0, 0, 0, 0, 0, 0, 0, 0, 0, 0, 0, 0, 0}, {0, 0, 0, 0, 0, 1, 1, 0, 0, 0, 0, 0, 0, 0, 0, 0},
            {0, 0, 0, 0, 0, 0, 0, 1, 1, 0, 0, 0, 0, 0, 0, 0}, {0, 0, 0, 0, 0, 0, 0, 1, 1, 0, 0, 0, 0, 0, 0, 0}, {0, 0, 0, 0, 0, 0, 0, 0, 0, 0, 1, 0, 0, 0, 0, 0}};
        String[] values = {"5", "-5", "\"a\"", "'a'", "h'61'", "\"\""};
        for (int v = 0; v < values.length; v++) {
            P.says("a = # .eq " + values[v] + " b = # .ne " + values[v]);
            for (int i = 0; i < items.length; i++) {
                P.item(items[i]);
                Probe.due(items[i] + " .eq " + values[v], P.judge.judge(0, 0), due[v][i]);
                Probe.due(items[i] + " .ne " + values[v], P.judge.judge(1, 0), 1 - due[v][i]);
            }
        }
        P.says("a = (1..3) .ne 2").so("01", "03").notSo("02", "00", "04");
        P.says("a = (1..3) .eq 4").notSo("01", "03", "04");
    }
}
