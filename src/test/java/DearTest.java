/** Promise 9: what would ask for a power of steps, were nothing kept of what has been found; each call must end, with its answer. */
public final class DearTest {
    private static final Probe P = new Probe();

    public static void main(String[] args) {
        names();
        andNames();
        unwraps();
        sizes();
        bits();
        blocks();
        heldItems();
        heldAnew();
        heldBehindFaults();
        arraysInGroups();
        mapsInGroups();
        groupsInArrays();
        groupsOfInstances();
        instances();
        groupsInMaps();
        manyAnswers();
        manyBrackets();
        Probe.finish();
    }

    /** A row n times, #i being 0, 1, .. in it and #j one more. */
    private static String rows(String row, int n) {
        StringBuilder text = new StringBuilder();
        for (int i = 0; i < n; i++) text.append(row.replace("#i", "" + i).replace("#j", "" + (i + 1))).append('\n');
        return text.toString();
    }

    /** Bytes that hold these. */
    static String held(String hex) {
        int n = hex.length() / 2;
        String head = n < 24 ? String.format("%02x", 0x40 + n) : n < 256 ? String.format("58%02x", n) : String.format("59%04x", n);
        return head + hex;
    }

    private static void names() {
        P.says("a = r0 " + rows("r#i = r#j / r#j / r#j", 14) + "r14 = 5").so("05");
        P.notSo("06", "6161");
        P.says("a = [* r0] " + rows("r#i = r#j / [r#j] / {r#j => r#j}", 14) + "r14 = 5").so("850581050505a10505");
        P.notSo("850581050505a10506", Probe.times("81", 9) + "06");
        P.says("a = p<0> p<x> = q<(x / x)> / q<(x / x)> q<x> = r<(x / x)> / r<(x / x)> r<x> = s<(x / x)> / s<(x / x)> s<x> = x / [x]").so("00", "8100");
        P.notSo("01", "8101", "818100");
    }

    private static void andNames() {
        P.says("a = &g0 / 7 " + rows("g#i //= &g#j g#i //= &g#j g#i //= x: &g#j", 10) + "g10 //= y: 5").so("05", "07");
        P.notSo("06", "80");
        P.says("a = [* &g0] " + rows("g#i = (g#j, [* g#j] // g#j)", 3) + "g3 = (5, 6)").so("8305068405060506", "8105", "8180");
        P.notSo("8107", "818105", "82058107");
    }

    private static void unwraps() {
        P.says("a = ~b0 / 7 " + rows("b#i = #6(~b#j / ~b#j / ~b#j)", 13) + "b13 = #6(5)").so("05", "07");
        P.notSo("06", "c105");
    }

    private static void sizes() {
        String within = "0";
        for (int i = 0; i < 14; i++) within = "uint .size (" + within + ")";
        P.says("a = " + within).so("00");
        P.notSo("01", "18ff", "20");
        P.says("a = " + within.replace("(0)", "(tstr)")).notSo("00", "01");
        P.says("a = " + within.replace("(0)", "(8)")).so("00", "1bffffffffffffffff");
        P.says("a = s0 " + rows("s#i = uint .size s#j / uint .bits s#j / uint .size (s#j .and s#j)", 7) + "s7 = 0").so("00", "01", "1903e8");
        P.says("a = bytes .size s0 " + rows("s#i = uint .size (s#j .and s#j)", 6) + "s6 = 0").so("40");
        P.notSo("4100", "420000");
    }

    private static void bits() {
        String most = "590ba6" + Probe.times("ff", 2981);
        String text = "a = p<1> / p<2> / p<3> p<x> = q<(x)> / q<(x / 1)> / q<(x / 2)> q<x> = " + Probe.times("#2 .bits (x / n) / ", 22) + "x n = 0..23854 / "
            + Probe.times("(1 / 2) / ", 9) + "3";
        P.says(text).so(most + "7f");
        P.notSo(most + "ff", most + "80");
        P.says("a = bytes .bits n0 " + rows("n#i = n#j / n#j / n#j .and n#j", 12) + "n12 = 0..23855").so(most + "ff");
        P.says("a = bytes .bits n0 " + rows("n#i = n#j / n#j / n#j .and n#j", 12) + "n12 = 0..23854").so(most + "7f");
        P.notSo(most + "ff");
    }

    /** Sizes and places of bits are looked at 64 at once: what CONTROLS say of them, and where a row of 64 ends. */
    private static void blocks() {
        String eight = Probe.times("00", 8);
        String all = Probe.times("ff", 8);
        P.says("a = bytes .bits ((0..127) .size 1)").so("50" + all + all);
        P.notSo("51" + eight + eight + "01");
        P.says("a = bytes .bits ((0..1000) .size (0 / 2))").so("41ff", "51" + eight + eight + "80");
        P.says("a = bytes .bits (any .size 0)").so("4101", "4100");
        P.notSo("4102", "49" + eight + "01");
        P.says("a = bytes .bits (any .size 1)").so("5820" + all + all + all + all);
        P.notSo("5821" + eight + eight + eight + eight + "01");
        P.says("a = bytes .bits (uint .bits (7 / 0))").so("51" + "0300000000000000" + eight + "03", "4103");
        P.notSo("4104", "51" + eight + eight + "04");
        P.says("a = bytes .bits (uint .bits (0 / 1))").so("410f");
        P.notSo("51" + eight + eight + "01", "49" + eight + "01");
        P.says("a = bytes .bits (any .ge 70)").so("49" + eight + "c0");
        P.notSo("49" + eight + "20");
        P.says("a = bytes .bits (any .ne 70)").so("49" + all + "bf");
        P.notSo("49" + eight + "40");
        P.says("a = bytes .bits ((any .ne \"x\") .and (any .eq 70 / any .eq \"x\"))").so("49" + eight + "40");
        P.notSo("49" + eight + "41");
        P.says("a = bytes .bits ((any .gt 69) .and (any .le 71))").so("49" + eight + "c0");
        P.notSo("49" + eight + "e0", "4a" + eight + "0001", "4101");
        P.says("a = bytes .bits ((any .ge -1) .and (any .lt 72))").so("49" + all + "ff");
        P.notSo("4a" + eight + "0001");
        P.says("a = bytes .bits ((any .lt -1) / (any .gt 18446744073709551615) / -3..-1 / 5..-1 / 3...3 / 0...0)").notSo("4101", "4108", "4a" + eight + "0001");
        P.says("a = bytes .bits (-5..18446744073709551615)").so("4a" + all + "ffff");
        P.says("a = bytes .size (64..65)").so(held(Probe.times("00", 64)), held(Probe.times("00", 65)));
        P.notSo(held(Probe.times("00", 63)), held(Probe.times("00", 66)), "40", "4100");
        P.says("a = bytes .size (63 / 128...130)").so(held(Probe.times("00", 63)), held(Probe.times("00", 128)), held(Probe.times("00", 129)));
        P.notSo(held(Probe.times("00", 127)), held(Probe.times("00", 130)), held(Probe.times("00", 64)));
        P.says("a = bytes .bits &(x: 1, g, ~b) g = (y: 65 // * 3) b = [#0 .lt 3]").so("49" + "0f00000000000000" + "02");
        P.notSo("4110", "49" + eight + "01");
        P.says("a = bytes .bits p<66> p<x> = ~q<x> / 1 q<x> = #6(x)").so("49" + "0200000000000000" + "04");
        P.notSo("4104");
    }

    /** What bytes hold is read once, however often it is asked for. */
    private static void heldItems() {
        String third = held(Probe.times("02", 90));
        String first = held(Probe.times(held(Probe.times(third, 9)), 3));
        String asked = "a = " + Probe.times("#2 .cborseq b / ", 14) + "3 b = [* c] c = " + Probe.times("#2 .cborseq d / ", 14) + "3 d = [* e] e = "
            + Probe.times("#2 .cborseq f / ", 14) + "3 f = [* ";
        P.says(asked + "1]").notSo(first);
        P.says(asked + "2]").so(first);
        P.says("a = [* b] b = bytes .cbor [* b] / bytes .cborseq [* b] / 5").so("8205" + held("80"), "81" + held("82" + held("80") + held("0505")), "81" + held("8105"));
        P.notSo("81" + held("06"), "81" + held("8106"), "81" + held(held(held(held("80")))));
        P.says("a = bytes .cborseq [+ bytes .cbor int]").so("5f" + held(held("01")) + held(held("02") + held("03")) + "ff");
        P.so("5f" + held("5f4118") + held("4118ff") + "ff");
        P.notSo("5fff", "5f" + held(held("0101")) + "ff");
    }

    /** What an ITEM's bytes hold stays as long as that ITEM, and no longer. */
    private static void heldAnew() {
        P.says("a = bytes .cbor [* int] / [* a]").so(held("820102"));
        P.notSo(held("82016161"));
        P.so("82" + held("8101") + held("8102"));
        P.illFormed("82" + held("8161"), 4);
        Probe.due("the ITEM that stays", P.judge.judge(0, 0), 1);
        Probe.due("the ITEM that stays", P.judge.judge(0, 2), 1);
        P.illFormed("825f" + held("6161") + "ff5f" + held("6161") + "01", 10);
        Probe.due("the ITEM that stays", P.judge.judge(0, 1), 1);
        P.says("a = bytes .cbor [* tstr] / [* a]");
        Probe.due("other RULES", P.judge.judge(0, 0), 0);
        P.so("825f" + held("81") + held("6161") + "ff" + held("80"));
        P.notSo("825f" + held("81") + held("61") + "ff" + held("80"));
    }

    /** What is joined for an ITEM that is none takes no room from what is joined later. */
    private static void heldBehindFaults() {
        P.says("a = bytes .cbor '" + Probe.times("x", 100) + "'").so(held("5f" + Probe.times(held("7878"), 50) + "ff"));
        P.items(held("5f" + Probe.times(held("7878"), 50) + "ff"), 1);
        for (int i = 0; i < 9; i++) P.illFormed("5f590b00" + Probe.times("79", 2816), 2820);
        Probe.due("the ITEM that stays", P.judge.judge(0, 0), 1);
    }

    private static void arraysInGroups() {
        String text = "a = [g0] " + rows("g#i = (" + Probe.times("? [g#j] ", 7) + ")", 8) + "g8 = (1)";
        P.says(text).so(Probe.times("81", 9) + "01", "80", "87" + Probe.times("80", 7));
        P.notSo(Probe.times("81", 9) + "02", "88" + Probe.times("80", 8));
    }

    private static void mapsInGroups() {
        String text = "a = {g0} " + rows("g#i = (" + Probe.times("? 1 => {g#j} ", 5) + ")", 7) + "g7 = (1 => 1)";
        P.says(text).so(Probe.times("a101", 8) + "01", "a0");
        P.notSo(Probe.times("a101", 8) + "02", "a101a101a102a0");
    }

    private static void groupsInArrays() {
        String group = "1";
        for (int i = 0; i < 14; i++) group = "* (" + group + ", 2 // 1)";
        P.says("a = [" + group + "]").so("9864" + Probe.times("01", 100), "80", "820101");
        P.notSo("9864" + Probe.times("01", 99) + "03", "8103");
        String stars = "1";
        for (int i = 0; i < 7; i++) stars = "* (* (" + stars + "), 2 // 1)";
        P.says("a = [" + stars + "]").so("9864" + Probe.times("01", 100));
        P.notSo("9864" + Probe.times("01", 99) + "03");
    }

    private static void groupsOfInstances() {
        String text = "a = [* p<(1)>" + Probe.times(" / p<(1)>", 6) + "] p<x> = " + Probe.times("q<(x)> / ", 6) + "q<(x)> q<x> = " + Probe.times("[g x] / ", 21)
            + "[g x] g = (* (* (* (* 2 3 // 2) 3 // 2) 3 // 2) ";
        String row = "985f" + Probe.times("02", 95);
        P.says(text + "5)").notSo("82" + row + row);
        P.says(text + "* 5)").notSo("82" + row + row);
        P.so("81985f" + Probe.times("02", 94) + "01");
        // The same group in other instances, and at the end of other arrays.
        P.says("a = [* ([b<1>] / [b<2>])] b<x> = (* (x, ? 3), * (7))").so("848301030183020203810780");
        P.notSo("81820102", "82810183030202", "81820701");
    }

    /** What is kept of one instance, or of one text, is not taken for another one. */
    private static void instances() {
        P.says("a = [g, 1 // g, 2] g = (* 3)").so("83030302", "8102", "820301");
        P.notSo("83030304", "80");
        P.says("a = [g<1>, 3 // g<2>, 3] g<x> = (* x)").so("83020203", "83010103", "8103");
        P.notSo("83020103", "80");
        P.says("a = p<1> / p<2> p<x> = bytes .size x").so("4100", "420000");
        P.notSo("43000000");
        P.says("a = (bytes .size q<1>) / (bytes .size q<2>) q<y> = y / 7").so("4100", "420000", "4700000000000000");
        P.notSo("43000000");
        P.says("a = bytes .size (b / ~b) b = #6(5)").so("450000000000");
        P.notSo("4400000000");
        P.says("a = p<0> / p<1> p<x> = bytes .bits x").so("4101", "4102", "40");
        P.notSo("4103", "4104");
        P.says("a = b<1> / b<2> b<p> = {p => 5}").so("a10105", "a10205");
        P.notSo("a10305", "a10106");
        P.says("a = b<1> / b<2> b<p> = int .and p").so("01", "02");
        P.notSo("03");
        P.says("a = b<1> / b<2> b<p> = (int .and p) .and int").so("01", "02");
        P.notSo("03");
        P.says("a = b<1> / b<2> b<p> = bytes .cbor [p]").so("428101", "428102");
        P.notSo("428103");
        P.says("a = [int]").so("8101");
        P.says("a = [tstr]");
        Probe.due("other RULES", P.judge.judge(0, 0), 0);
        P.says("a = {x: 1, y: {? z: 2, ? u: 3, ? v: 4}}").so("a26179a1617a02617801", "a2617801" + "6179a1617a02");
        P.notSo("a26179a1617a03617801");
    }

    private static void groupsInMaps() {
        String six = "a6000101010201030104010501";
        P.says("a = {* g} g = (" + Probe.times("? int => int // ", 30) + "? any => 1)").so(six);
        P.says("a = {" + Probe.times("* (", 14) + "? int => 2 // ? any => 3" + Probe.times(")", 14) + "}").notSo(six);
        P.so("a6000201020203030204030503");
        P.says("a = {* h0} " + rows("h#i = (* h#j // * h#j , ? 1 => 1 // ? int => 2)", 3) + "h3 = (? int => 1 // ? 2 => int // 3 => 3)").so(six, "a6000101020207030304020501");
        P.notSo("a6000101020207030304020504");
    }

    /** More answers than the first room for them has. */
    private static void manyAnswers() {
        P.says("a = [* r0] " + rows("r#i = r#j / [* (r#j / 3)]", 13) + "r13 = 1 / 2").so("9860" + Probe.times("01", 96), "982f" + Probe.times("83010203", 47));
        P.notSo("9860" + Probe.times("01", 95) + "04", "9860" + Probe.times("04", 96), "9830" + Probe.times("83010203", 47) + "83010204");
    }

    /** A ( that begins no type is not read as one again and again. */
    private static void manyBrackets() {
        String in = "1";
        for (int i = 0; i < 8; i++) in = "([" + in + "] 2)";
        P.rules("a = " + in, 1);
        P.fault("a = " + in.substring(0, in.length() - 1), 1, in.length() + 3);
        String key = "1";
        for (int i = 0; i < 7; i++) key = "({1 => 1 " + key + "} 2)";
        P.rules("a = [" + key + "]", 1);
        P.fault("a = [" + key + ")", 1, key.length() + 5);
    }
}
