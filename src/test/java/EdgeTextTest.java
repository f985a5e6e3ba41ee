/** Section 1 of THE TAPE, sentence by sentence: the text of rules at the edges that it names, and on both sides of them. */
public final class EdgeTextTest {
    private static final Probe P = new Probe();
    private static final String N31 = Probe.times("n", 31);
    private static final String BELOW_2_64 = "18446744073709551615";
    private static final String AT_2_64 = "18446744073709551616";

    public static void main(String[] args) {
        blanks();
        remarks();
        nameSigns();
        nameEnds();
        nameSizes();
        uints();
        uintBounds();
        uintNeighbours();
        lessThanZero();
        floats();
        floatNeighbours();
        occurs();
        occurBounds();
        textBytes();
        escapes();
        hexBytes();
        hexBeginnings();
        signs();
        longestTokens();
        hashes();
        emptyTexts();
        parameterLists();
        typeOrEntry();
        types();
        words();
        groups();
        entries();
        keys();
        parens();
        twoReadings();
        betweenTokens();
        places();
        tooManyTokens();
        tooManyOpen();
        Probe.finish();
    }

    private static boolean isLetter(int c) {
        return c >= 'a' && c <= 'z' || c >= 'A' && c <= 'Z' || c == '@' || c == '_' || c == '$';
    }

    private static boolean isDigit(int c) {
        return c >= '0' && c <= '9';
    }

    private static boolean isHex(int c) {
        return isDigit(c) || c >= 'a' && c <= 'f' || c >= 'A' && c <= 'F';
    }

    /** How many RULES, or less the FAULT. */
    private static void grammar(String text, int due) {
        Probe.due(text, P.grammar(text), due);
    }

    private static void kind(String text, int rule, int group) {
        P.says(text);
        Probe.due("kind of rule " + rule + " of " + text, P.judge.rule(rule, -3), group);
    }

    private static void blanks() {
        Probe.sentence("BLANKS are 10, 13, 32, and from ; to the line's end (byte 10, or the text's)");
        for (int c = 0; c < 256; c++) {
            boolean blank = c == 10 || c == 13 || c == 32 || c == ';';
            boolean begins = c > 32 && c < 127 && c != ';';
            if (blank) P.rules("" + (char) c, 0);
            else if (!begins) P.fault("" + (char) c, 1, 0);
            if (blank) P.rules("a = 1" + (char) c + "\nb = 1", 2);
            else if (!begins) P.fault("a = 1" + (char) c + "\nb = 1", 1, 5);
        }
        P.rules("\n\r a\n\r =\n\r 1\n\r ", 1);
        P.rules("a=1", 1);
    }

    private static void remarks() {
        Probe.sentence("from ; to the line's end (byte 10, or the text's)");
        P.rules(";", 0);
        P.rules("; a = 1", 0);
        P.rules("a = 1;", 1);
        P.rules("a = 1;b = 1", 1);
        P.rules("a = 1;\nb = 1", 2);
        P.rules("a = 1;\rb = 1", 1);
        P.rules("a = 1;\r\nb = 1", 2);
        P.rules("a = ;\n;;\n1 ; 2 ; 3", 1);
        P.faultAt("a = ; 1\n@@", 1);
        P.faultAt("a = ; 1@@", 1);
        for (int c = 0; c < 256; c++) P.rules("a = 1 ;" + (char) c + "b = 1", c == 10 ? 2 : 1);
        P.faultAt("a;\n@@b = 1", 1);
        P.rules("a;b\n= 1", 1);
        P.says("a = \";\"").so("613b").notSo("60");
    }

    private static void nameSigns() {
        Probe.sentence("NAME: a letter, @ _ or $ , then these, digits, - and . ,");
        for (int c = 33; c < 256; c++) {
            if (c == ';') continue;
            String first = (char) c + " = 1";
            if (isLetter(c)) P.rules(first, 1);
            else P.fault(first, 1, 0);
            String second = "a" + (char) c + "b = 1";
            if (isLetter(c) || isDigit(c) || c == '-' || c == '.') P.rules(second, 1);
            else grammar(second, -1);
        }
        P.rules("a0 = 1 a9 = 1 Z_@$ = 1 a-.-b = 1", 4);
        P.faultAt("@@0a = 1", 1);
        P.faultAt("@@-a = 1", 1);
        P.faultAt("@@.a = 1", 1);
        P.rules("a = 1 A = 2", 2);
    }

    private static void nameEnds() {
        Probe.sentence("not ending with - or . (as long as can be; what would end so ends before them; 32 at most)");
        P.faultAt("a@@- = 1", 1);
        P.faultAt("a@@. = 1", 1);
        P.faultAt("a@@-- = 1", 1);
        P.faultAt("a@@.. = 1", 1);
        P.faultAt("a@@... = 1", 1);
        P.faultAt("a@@-. = 1", 1);
        P.faultAt("a@@.- = 1", 1);
        P.faultAt("a-b@@- = 1", 1);
        P.rules("a-.b = 1 a--c = 1", 2);
        P.rules("a = b..c b..c = 1", 2);
        P.rules("a = [b] b = 1", 2);
        P.faultAt("a = @@b..5 b = 1", 4);
        P.faultAt("a = @@b ..5 b = 1", 8);
        P.faultAt("a = @@b.. 5 b = 1", 8);
        P.faultAt("a = b@@. 5 b = 1", 1);
        P.faultAt("a = b.size @@1", 1);
        P.rules("a = b .size 1 b = 2", 2);
        P.rules("a = 5.size 1", 1);
        P.faultAt("a = 5 .size@@- 1", 1);
        P.faultAt("a = 5 .size@@.. 1", 1);
    }

    private static void nameSizes() {
        Probe.sentence("32 at most)");
        P.rules(N31 + " = 1", 1);
        Probe.due("31 signs", P.judge.rule(0, -1), 31);
        P.rules(N31 + "n = 1", 1);
        Probe.due("32 signs", P.judge.rule(0, -1), 32);
        P.faultAt("@@" + N31 + "nn = 1", 1);
        P.rules(N31 + "9 = 1", 1);
        P.faultAt("@@" + N31 + "-9 = 1", 1);
        // What would end with - or . ends before them, with 32.
        P.faultAt(N31 + "n@@- = 1", 1);
        P.faultAt(N31 + "n@@.. = 1", 1);
        P.faultAt("@@" + N31 + "nn- = 1", 1);
        P.faultAt("@@" + N31 + "-.n = 1", 1);
        P.rules("a = " + N31 + "n " + N31 + "n = 1", 2);
        P.faultAt("a = @@" + N31 + "nn", 1);
        P.faultAt("a = 1 @@." + N31 + "n 1", 8);
        P.faultAt("a = 1 @@." + N31 + "nn 1", 1);
        P.rules("a<" + N31 + "n> = 1", 1);
        P.faultAt("a<@@" + N31 + "nn> = 1", 1);
        P.rules("a = {" + N31 + "n: 1}", 1);
        P.faultAt("a = {@@" + N31 + "nn: 1}", 1);
    }

    private static void uints() {
        Probe.sentence("UINT: 0, digits not beginning with 0, 0x and digits of base 16 (letters small or great, as in h' .. '), 0b and digits of base 2");
        P.says("a = 0").so("00").notSo("01", "20");
        P.says("a = 1").so("01").notSo("00", "02");
        P.says("a = 10").so("0a").notSo("01", "00");
        P.says("a = 90").so("185a").notSo("09");
        P.says("a = 0x0").so("00").notSo("01");
        P.says("a = 0x00a").so("0a").notSo("00");
        P.says("a = 0xaAfF").so("19aaff").notSo("19aafe");
        P.says("a = 0x9").so("09").notSo("00");
        P.says("a = 0b0").so("00").notSo("01");
        P.says("a = 0b0010").so("02").notSo("0a");
        String[] none = {"00", "01", "07", "0x", "0b", "0x ", "0b ", "0xg", "0xG", "0x@", "0b2", "0b9", "0b12", "0ba", "0X1", "0B1", "0o7", "0x_1", "0x-1", "0xx1", "0b0b1"};
        for (String number : none) P.faultAt("a = @@" + number, 1);
        for (int c = 33; c < 127; c++) {
            if (isHex(c)) P.rules("a = 0x" + (char) c, 1);
            else P.faultAt("a = @@0x" + (char) c, 1);
            if (c == '0' || c == '1') P.rules("a = 0b" + (char) c, 1);
            else P.faultAt("a = @@0b" + (char) c, 1);
        }
    }

    private static void uintBounds() {
        Probe.sentence("below 2^64; not right before a letter, a digit or _ .");
        P.says("a = 18446744073709551614").so("1bfffffffffffffffe").notSo("1bffffffffffffffff", "00");
        P.says("a = " + BELOW_2_64).so("1bffffffffffffffff").notSo("1bfffffffffffffffe");
        P.faultAt("a = @@" + AT_2_64, 1);
        P.rules("a = 9223372036854775807 b = 9223372036854775808", 2);
        P.rules("a = 18446744073709551609 b = 18446744073709551610", 2);
        for (int d = 0; d < 10; d++) {
            grammar("a = 1844674407370955161" + d, d < 6 ? 1 : -1);
            grammar("a = 1844674407370955160" + d, 1);
            grammar("a = 1844674407370955162" + d, -1);
            grammar("a = 1844674407370955061" + d, 1);
            grammar("a = 1844674407370956161" + d, -1);
        }
        P.faultAt("a = @@184467440737095516150", 1);
        P.faultAt("a = @@20000000000000000000", 1);
        P.faultAt("a = @@99999999999999999999", 1);
        P.faultAt("a = @@100000000000000000000", 1);
        P.faultAt("a = @@" + Probe.times("9", 2000), 1);
        P.says("a = 0xffffffffffffffff").so("1bffffffffffffffff").notSo("00");
        P.says("a = 0x" + Probe.times("0", 500) + "ffffffffffffffff").so("1bffffffffffffffff");
        P.rules("a = 0xfffffffffffffffe b = 0x8000000000000000 c = 0x1000000000000000", 3);
        P.faultAt("a = @@0x10000000000000000", 1);
        P.faultAt("a = @@0x1ffffffffffffffff", 1);
        P.faultAt("a = @@0xfffffffffffffffff", 1);
        P.faultAt("a = @@0x80000000000000000", 1);
        P.says("a = 0b" + Probe.times("1", 64)).so("1bffffffffffffffff").notSo("1b7fffffffffffffff");
        P.says("a = 0b" + Probe.times("0", 500) + Probe.times("1", 64)).so("1bffffffffffffffff");
        P.says("a = 0b1" + Probe.times("0", 63)).so("1b8000000000000000").notSo("00");
        P.faultAt("a = @@0b1" + Probe.times("0", 64), 1);
        P.faultAt("a = @@0b" + Probe.times("1", 65), 1);
    }

    private static void uintNeighbours() {
        Probe.sentence("not right before a letter, a digit or _ . NUMBER: a UINT, perhaps - right before (of 0: it is 0)");
        String[] uints = {"1", "0", "-1", "0x1", "0b1", "-0"};
        for (String uint : uints) {
            for (int c = 33; c < 127; c++) {
                boolean sticks = isLetter(c) && c != '@' && c != '$';
                boolean more = isDigit(c) || uint.endsWith("x1") && isHex(c) || c == '.' || c == ';';
                boolean kind = uint.endsWith("0") && (c == 'x' || c == 'b');
                if (more || kind || c == 'e' || c == 'E') continue;
                if (sticks) P.fault("a = [" + uint + (char) c + "]", 1, 5);
                else Probe.due("place of FAULT behind " + uint + (char) c, P.grammar("a = [" + uint + (char) c + " ]") == 1 || P.judge.place() > 5 ? 1 : 0, 1);
            }
        }
        P.rules("a = [1$x]", 1);
        P.faultAt("a = [1@@$$x<1>]", 5);
        P.fault("a = [1@x]", 4, 6);
        P.fault("a = [1_]", 1, 5);
        P.fault("a = [0x1g]", 1, 5);
        P.fault("a = [0b12]", 1, 5);
        P.fault("a = [12a]", 1, 5);
        P.rules("a = [1\"x\"]", 1);
        P.rules("a = [1'x']", 1);
        P.faultAt("a = [@@1h'00']", 1);
        P.rules("a = [1 h'00']", 1);
        P.rules("a = [1#]", 1);
        P.rules("a = [1(2)]", 1);
        P.says("a = [1-2]").so("820121").notSo("8101");
    }

    private static void lessThanZero() {
        Probe.sentence("NUMBER: a UINT, perhaps - right before (of 0: it is 0)");
        P.says("a = -0").so("00").notSo("20", "01");
        P.says("a = -0x0").so("00").notSo("20");
        P.says("a = -0b0").so("00").notSo("20");
        P.says("a = -1").so("20").notSo("00", "21", "01");
        P.says("a = -2").so("21").notSo("20", "22");
        P.says("a = -" + BELOW_2_64).so("3bfffffffffffffffe").notSo("3bffffffffffffffff", "3bfffffffffffffffd", "1bffffffffffffffff");
        P.faultAt("a = @@-" + AT_2_64, 1);
        P.faultAt("a = @@- 1", 1);
        P.faultAt("a = @@--1", 1);
        P.faultAt("a = @@-", 1);
        P.faultAt("a = @@-a", 1);
        P.faultAt("a = @@-01", 1);
        P.faultAt("a = @@-+1", 1);
        P.faultAt("a = @@-.5", 1);
    }

    private static void floats() {
        Probe.sentence("or a FLOAT: digits as of a UINT of base 10 (below 2^64, too), then a fraction (. and digits), or an exponent (e or E, perhaps + or -, digits), or both; also with -");
        String[] floats = {"0.0", "0.5", "1.0", "1.00", "10.01", "0e0", "1e5", "1E5", "1e+5", "1e-5", "1E+5", "1E-5", "1e05", "1.5e5", "1.5E-05", "-0.0", "-1.5", "-1e5", "-1.5e-5",
            BELOW_2_64 + ".0", BELOW_2_64 + "e0", BELOW_2_64 + "." + Probe.times("9", 100), "1." + Probe.times("9", 100), "1e" + Probe.times("9", 100)};
        for (String number : floats) P.faultAt("a = @@" + number, 7);
        String[] none = {AT_2_64 + ".0", AT_2_64 + "e0", "-" + AT_2_64 + ".0", "00.5", "01.5", "-01.5", "01e5", "00e5", "1e", "1e+", "1e-", "1E", "1e+-5", "1e++5", "1e 5", "0e", "-1e"};
        for (String number : none) P.faultAt("a = @@" + number, 1);
        P.faultAt("a = 0x1@@.5", 1);
        P.faultAt("a = 0b1@@.1", 1);
        P.says("a = 0x1e5").so("1901e5").notSo("01");
        P.faultAt("a = @@0b1e5", 1);
        P.faultAt("a = 1@@.", 1);
        P.faultAt("a = 1@@. 5", 1);
        P.faultAt("a = @@.5", 1);
        P.faultAt("a = 1@@.-5", 1);
        P.rules("a = 1..5", 1);
        P.faultAt("a = 1 ..@@1.5", 7);
        P.faultAt("a = @@1.5..2", 7);
        P.faultAt("a = 1@@.e5 5", 8);
        P.faultAt("a = 1@@.E5 5", 8);
    }

    private static void floatNeighbours() {
        Probe.sentence("also with - ; not right before a letter, a digit or _ . OCCUR:");
        for (int c = 33; c < 127; c++) {
            boolean sticks = isLetter(c) && c != '@' && c != '$';
            if (isDigit(c) || c == ';') continue;
            // Where the FLOAT cannot stand, the UINT before the point can.
            if (sticks) P.fault("a = [1.5" + (char) c + "]", 1, 6);
            else if (c != '.') Probe.due("place of FAULT behind 1.5" + (char) c, P.grammar("a = [1.5" + (char) c + " ]") == -7 || P.judge.place() > 6 ? 1 : 0, 1);
            if (sticks) P.fault("a = [1e5" + (char) c + "]", 1, 5);
            else if (c != '.') Probe.due("place of FAULT behind 1e5" + (char) c, P.grammar("a = [1e5" + (char) c + " ]") == -7 || P.judge.place() > 5 ? 1 : 0, 1);
        }
        P.faultAt("a = 1.5@@.5", 1);
        P.faultAt("a = 1e5@@.5", 1);
        P.faultAt("a = @@1.5.size 1", 7);
        P.faultAt("a = [@@1.5*2 1]", 7);
        P.fault("a = [1.5@ 1]", 7, 5);
    }

    private static void occurs() {
        Probe.sentence("OCCUR: [UINT] * [UINT], without blanks, + or ? .");
        P.says("a = [* 1]").so("80", "8101", "820101");
        P.says("a = [1* 1]").so("8101", "820101").notSo("80");
        P.says("a = [*1 1]").so("80", "8101").notSo("820101");
        P.says("a = [1*2 1]").so("8101", "820101").notSo("80", "83010101");
        P.says("a = [0x1*0b10 1]").so("8101", "820101").notSo("80", "83010101");
        P.says("a = [0*0 1]").so("80").notSo("8101");
        P.says("a = [+ 1]").so("8101", "820101").notSo("80");
        P.says("a = [? 1]").so("80", "8101").notSo("820101");
        P.says("a = [1 *2 1]").so("8101", "820101", "83010101").notSo("80", "8401010101");
        P.says("a = [1* 2 1]").so("820201", "83020201").notSo("8101", "8101");
        P.says("a = [1 * 2]").so("8101", "820102").notSo("80");
        Probe.sentence("a UINT right before * begins an OCCUR where no token is begun yet (-1* are two tokens, 2*3*4 are 2*3 and *4)");
        P.says("a = [-1* 4]").so("8120", "822004", "83200404").notSo("80", "8104");
        P.says("a = [-1*1 4]").so("8120", "822004").notSo("83200404");
        P.faultAt("a = [2*3@@*4 5]", 1);
        P.says("a = [2*3 4 *4 5]").so("820404", "83040405").notSo("8104");
        P.says("a = [#7.20*2 1]").so("81f4", "83f40101").notSo("80", "84f4010101");
        P.faultAt("a = 1..@@5*2", 1);
        P.faultAt("a = [5..@@5*2 1]", 1);
        P.faultAt("a = [2*@@*3 1]", 1);
        P.says("a = [1+5]").so("820105", "83010505").notSo("8101", "8106");
        P.says("a = [1?5]").so("8101", "820105").notSo("83010505");
        P.says("a = [0x1e+5]").so("82181e05").notSo("81181e");
        P.faultAt("a = [@@1e+5]", 7);
        P.faultAt("a = [+@@+ 1]", 1);
        P.faultAt("a = [?@@* 1]", 1);
        P.faultAt("a = [1+@@]", 1);
        P.faultAt("a = [1*@@]", 1);
        P.faultAt("a = [1*2@@]", 1);
        P.faultAt("a = [1*2@@.5]", 1);
        P.faultAt("a = [1*@@2e5]", 7);
        P.faultAt("a = [*2@@.5]", 1);
        P.faultAt("a = [@@1.5*2 1]", 7);
        P.faultAt("a = [@@1e5*2 1]", 7);
    }

    private static void occurBounds() {
        Probe.sentence("below 2^64; not right before a letter, a digit or _ .");
        P.rules("a = [" + BELOW_2_64 + "*" + BELOW_2_64 + " 1]", 1);
        P.faultAt("a = [@@" + AT_2_64 + "* 1]", 1);
        P.faultAt("a = [*@@" + AT_2_64 + " 1]", 1);
        P.faultAt("a = [1*@@" + AT_2_64 + " 1]", 1);
        P.faultAt("a = [@@01* 1]", 1);
        P.faultAt("a = [*@@01 1]", 1);
        P.faultAt("a = [1*@@2a 1]", 1);
        P.faultAt("a = [1*@@2_ 1]", 1);
        P.faultAt("a = [@@1a*2 1]", 1);
        P.says("a = [1*b] b = 2").so("8102", "820202").notSo("80");
    }

    private static void textBytes() {
        Probe.sentence("TEXT: \" .. \" of bytes 32 .. 126");
        for (int c = 0; c < 256; c++) {
            boolean plain = c >= 32 && c <= 126 && c != '\\';
            String hex = String.format("%02x", c);
            if (plain && c != '"') P.says("a = \"" + (char) c + "\"").so("61" + hex).notSo("41" + hex, "60");
            else if (c == '"') P.faultAt("a = \"\"@@\"", 1);
            else P.faultAt("a = @@\"" + (char) c + "\"", 1);
            if (plain && c != '\'') P.says("a = '" + (char) c + "'").so("41" + hex).notSo("61" + hex, "40");
            else if (c == '\'') P.faultAt("a = ''@@'", 1);
            else P.faultAt("a = @@'" + (char) c + "'", 1);
        }
        P.says("a = \"\"").so("60").notSo("6100", "40");
        P.says("a = ''").so("40").notSo("4100", "60");
        String[] none = {"\"", "\"a", "\"a b = 1", "'", "'a", "\"a'", "'a\"", "\"\\", "'\\", "\"\\\"", "'\\'"};
        for (String text : none) P.faultAt("a = @@" + text, 1);
        P.says("a = \"" + Probe.times("x", 2994) + "\"").so("790bb2" + Probe.times("78", 2994)).notSo("790bb1" + Probe.times("78", 2993));
    }

    private static void escapes() {
        Probe.sentence("with \\ and one of \" \\ / b f n r t for these (as in that well-known notation). BYTES: ' .. ' likewise (with \\' , not \\\" )");
        String signs = "\\/bfnrt";
        String[] hexes = {"5c", "2f", "08", "0c", "0a", "0d", "09"};
        for (int c = 0; c < 256; c++) {
            int known = signs.indexOf(c);
            if (known >= 0 || c == '"') P.says("a = \"\\" + (char) c + "\"").so("61" + (known >= 0 ? hexes[known] : "22")).notSo("60");
            else P.faultAt("a = @@\"\\" + (char) c + "\"", 1);
            if (known >= 0 || c == '\'') P.says("a = '\\" + (char) c + "'").so("41" + (known >= 0 ? hexes[known] : "27")).notSo("40");
            else P.faultAt("a = @@'\\" + (char) c + "'", 1);
        }
        P.says("a = \"\\\\\"").so("615c").notSo("625c5c");
        P.says("a = \"\\\\n\"").so("625c6e").notSo("615c", "610a");
        P.faultAt("a = @@\"\\u0041\"", 1);
        P.faultAt("a = @@\"\\", 1);
        P.faultAt("a = @@\"\\\\\\\"", 1);
    }

    private static void hexBytes() {
        Probe.sentence("h' .. ' digits of base 16 two for a byte, bytes 10, 13, 32 anywhere among them, also first, last, between the two of a byte");
        P.says("a = h''").so("40").notSo("4100");
        P.says("a = h' \r\n '").so("40").notSo("4120");
        P.says("a = h'00'").so("4100").notSo("40", "420000");
        P.says("a = h'aFf0'").so("42aff0").notSo("42aff1");
        P.faultAt("a = @@h'0'", 1);
        P.faultAt("a = @@h'000'", 1);
        P.faultAt("a = @@h'0 00'", 1);
        P.faultAt("a = @@h'", 1);
        P.faultAt("a = @@h'00", 1);
        P.faultAt("a = @@h'0", 1);
        for (int c = 0; c < 256; c++) {
            boolean blank = c == 10 || c == 13 || c == 32;
            String[] texts = {"h'" + (char) c + "12'", "h'1" + (char) c + "2'", "h'12" + (char) c + "'"};
            for (String text : texts) {
                if (blank) P.says("a = " + text).so("4112").notSo("40");
                else if (c == '\'') P.fault("a = " + text, 1, text.startsWith("h'1'") ? 4 : text.startsWith("h''") ? 7 : 9);
                else P.faultAt("a = @@" + text, 1);
            }
            if (isHex(c)) P.says("a = h'" + (char) c + "1'").so(String.format("41%x1", Character.digit(c, 16)));
            else if (!blank && c != '\'') P.faultAt("a = @@h'" + (char) c + "1'", 1);
        }
    }

    private static void hexBeginnings() {
        Probe.sentence("(where h' stands there is that, or no token begins)");
        P.rules("a = [h'00']", 1);
        P.faultAt("a = [@@h'0'] h = 1", 1);
        P.faultAt("a = [@@h'zz'] h = 1", 1);
        P.says("a = [h '00'] h = 1").so("8201423030").notSo("814100");
        P.says("a = [H'00'] H = 1").so("8201423030").notSo("814100");
        P.says("a = [ah'00'] ah = 1").so("8201423030").notSo("814100");
        P.rules("a = [h\"00\"] h = 1", 2);
        P.faultAt("@@h'00' = 1", 1);
        Probe.sentence("(.h' .. ' is CONTROL .h and a BYTES)");
        P.faultAt("a = 1 @@.h'00'", 8);
        P.faultAt("a = 1 @@.h'zz'", 8);
        P.faultAt("a = 1 @@.h '0'", 8);
        P.faultAt("a = 1 .h@@'0", 1);
    }

    private static void signs() {
        Probe.sentence("SIGNS: = /= //= / // ( ) { } [ ] < > , : ^ => ~ & # .. ... and . right before a NAME (CONTROL, one token)");
        P.rules("a=1 b/=1 c//=1 d=1/2 e=[1//2] f=(1,2) g={} h=[] i<p>=p j=i<1> k=(x:1) l=(1^=>2) m=(1=>2) n=~time o=&g2 g2=(1,2) q=# r=1..2 s=1...2 t=1.size 2", 20);
        P.faultAt("a @@/ = 1", 1);
        P.faultAt("a @@// = 1", 1);
        P.faultAt("a @@/ / = 1", 1);
        P.faultAt("a = [1 / @@/ 2]", 1);
        P.faultAt("a = (1 @@= > 2)", 1);
        P.faultAt("a = 1 @@. . 2", 1);
        P.faultAt("a = 1 .. @@. 2", 1);
        P.faultAt("a = 1 @@. size 2", 1);
        P.faultAt("a = 1 @@.1", 1);
        P.faultAt("a = 1 @@.-", 1);
        P.rules("a = 1 .. 2", 1);
        P.rules("a = 1 ... 2", 1);
        P.faultAt("a = 1...@@. 2", 1);
        P.faultAt("a = 1...@@.5", 1);
        P.faultAt("a = 1...@@.. 5", 1);
        P.faultAt("a = 1 @@.$x 2", 8);
        P.fault("a = 1 .@x 2", 8, 6);
        P.faultAt("a = 1 @@._x 2", 8);
        for (char c : new char[] {'!', '%', '-', '|', '`', '\\', '\'', '"', 127, 128, 255, 0}) {
            P.fault("a = 1 " + c, 1, 6);
            P.fault(c + "", 1, 0);
        }
    }

    private static void longestTokens() {
        Probe.sentence("A token is as long as can be, but for what is told");
        P.faultAt("a @@=> 1", 1);
        P.faultAt("a = @@>1", 1);
        P.faultAt("a =@@=1", 1);
        P.faultAt("a =@@=> 1", 1);
        P.faultAt("a /=@@= 1", 1);
        P.faultAt("a //=@@=> 1", 1);
        P.rules("a //=1", 1);
        P.rules("a/=1", 1);
        P.faultAt("a @@///= 1", 1);
        P.faultAt("a = [1//@@/2]", 1);
        P.rules("a = [1////2]", 1);
        P.faultAt("a = [1 @@//= 2]", 1);
        P.faultAt("a = [1 @@/= 2]", 1);
        P.faultAt("a = 1@@//2", 1);
        P.faultAt("a = 1 / @@/2", 1);
        P.says("a = [12]").so("810c").notSo("820102");
        P.says("a = {b<1>=>2} b<p>=p").so("a10102").notSo("a10101");
        P.rules("a<p>=p b<p>/=p c<p>//=p", 3);
        P.faultAt("a=b@@/=1", 1);
        P.says("a = [ab] ab = 1 a2 = 1").so("8101");
        P.rules("a = [1...2]", 1);
        P.says("a = 1...2").so("01").notSo("02");
        P.says("a = 1..2").so("01", "02").notSo("03");
    }

    private static void hashes() {
        Probe.sentence("Right behind #: a digit (one token with it), perhaps . and a UINT.");
        P.says("a = [#6(1)]").so("81c101").notSo("8101");
        P.says("a = [# 1]").so("820001").notSo("8120");
        P.says("a = [#1]").so("8120").notSo("820001");
        P.says("a = [#10]").so("822000").notSo("8120", "810a");
        P.says("a = [#1b] b = 5").so("822005").notSo("8120");
        P.faultAt("a = [#1@@x]", 4);
        P.faultAt("a = #6@@x(1)", 1);
        P.says("a = [#7.20]").so("81f4").notSo("81f5");
        P.says("a = [#7 .size 1]").notSo("81f4");
        P.says("a = #6.0x10(1)").so("d001").notSo("c001");
        P.says("a = #7.0b10100").so("f4").notSo("f5");
        P.says("a = #6." + BELOW_2_64 + "(1)").so("dbffffffffffffffff01").notSo("dbfffffffffffffffe01");
        P.faultAt("a = #6@@." + AT_2_64 + "(1)", 1);
        P.faultAt("a = #7@@." + AT_2_64, 1);
        P.faultAt("a = #7@@.01", 1);
        P.faultAt("a = #7@@.1a", 1);
        P.faultAt("a = #7@@.1_", 1);
        P.faultAt("a = #7@@.", 1);
        P.faultAt("a = #7@@. 1", 1);
        P.faultAt("a = #7 @@.1", 1);
        P.faultAt("a = #7@@.-1", 1);
        P.faultAt("a = #7.1@@.1", 1);
        P.faultAt("a = #7.1 .size@@", 1);
    }

    private static void emptyTexts() {
        Probe.sentence("rules: { rule }.");
        P.rules("", 0);
        P.rules(" ", 0);
        P.rules("a = 1", 1);
        P.rules("a = 1 b = 2 c = 3", 3);
        P.faultAt("a@@", 1);
        P.faultAt("a =@@", 1);
        P.faultAt("a = 1 b@@", 1);
        P.faultAt("@@1 = a", 1);
        P.faultAt("@@= 1", 1);
        P.faultAt("@@(a = 1)", 1);
    }

    private static void parameterLists() {
        Probe.sentence("rule: NAME [ < NAME { , NAME } > ] and = type, or /= type, or = entry, or //= entry.");
        P.rules("a<p> = 1", 1);
        P.rules("a<p,q,r> = 1", 1);
        P.rules("a<p> /= 1", 1);
        P.rules("a<p> //= 1", 1);
        P.faultAt("a<@@> = 1", 1);
        P.faultAt("a<p @@= 1", 1);
        P.faultAt("a<p,@@> = 1", 1);
        P.faultAt("a<@@,p> = 1", 1);
        P.faultAt("a<p @@q> = 1", 1);
        P.faultAt("a<p,@@,q> = 1", 1);
        P.faultAt("a<@@1> = 1", 1);
        P.faultAt("a<p@@<q>> = 1", 1);
        P.faultAt("a<p>@@<q> = 1", 1);
        P.faultAt("a @@1", 1);
        P.faultAt("a @@: 1", 1);
        P.faultAt("a @@b = 1", 1);
        P.faultAt("a<p@@", 1);
        P.faultAt("a<p>@@", 1);
        P.faultAt("a /= @@* 1", 1);
        P.faultAt("a /= 1 @@=> 2", 1);
        P.faultAt("a /= x@@: 1", 1);
        P.faultAt("a /= (1@@, 2)", 1);
        P.faultAt("a /= (@@)", 1);
        P.faultAt("a //= @@", 1);
        P.faultAt("a //= @@= 1", 1);
        P.faultAt("a //= 1@@, 2", 1);
        P.faultAt("a //= 1 @@// 2", 1);
        P.rules("a //= (1, 2 // 3)", 1);
        P.rules("a //= * x: 1", 1);
    }

    private static void typeOrEntry() {
        Probe.sentence("What is behind = is a type, if from there a type can be read (as long as can be) that ends at the text's end or where a NAME, perhaps with < NAME { , NAME } >, and = /= or //= come; else an entry.");
        kind("a = 1", 0, 0);
        kind("a = 1 b = 2", 0, 0);
        kind("a = 1 b /= 2", 0, 0);
        kind("a = 1 b //= 2", 0, 0);
        kind("a = 1 b<p> = 2", 0, 0);
        kind("a = 1 b<p, q> /= 2", 0, 0);
        kind("a = 1 b<p> //= 2", 0, 0);
        kind("a = (1)", 0, 0);
        kind("a = (1 / 2) b = 1", 0, 0);
        kind("a = x: 1", 0, 1);
        kind("a = x: 1 b = 2", 0, 1);
        kind("a = 1 => 2", 0, 1);
        kind("a = 1 ^ => 2", 0, 1);
        kind("a = 1: 2", 0, 1);
        kind("a = ? 1", 0, 1);
        kind("a = 1*1 1", 0, 1);
        kind("a = ()", 0, 1);
        kind("a = (1, 2)", 0, 1);
        kind("a = (1,)", 0, 1);
        kind("a = (1 2) b = 1", 0, 1);
        kind("a = (1 // 2)", 0, 1);
        kind("a = (? 1)", 0, 1);
        kind("a = (1) => 2", 0, 1);
        kind("a = 1 / 2 / 3", 0, 0);
        P.faultAt("a = 1 @@2", 1);
        P.faultAt("a = 1 b@@", 1);
        P.faultAt("a = 1 b<p>@@", 1);
        P.faultAt("a = 1 b<@@1> = 2", 1);
        P.faultAt("a = 1 b<p@@", 1);
        P.faultAt("a = 1 b @@2", 1);
        P.faultAt("a = 1 b @@: 2", 1);
        P.faultAt("a = 1 / @@= 2", 1);
        P.faultAt("a = 1@@, b = 2", 1);
        P.faultAt("a = 1 @@)", 1);
        // As long as can be: what stands behind NAME with < > belongs to the type.
        P.faultAt("a = b<c> @@= 1", 1);
        P.faultAt("a = 1 / b @@= 2", 1);
        P.faultAt("a = 1 .. b @@= 2", 1);
    }

    private static void types() {
        Probe.sentence("type: type1 { / type1 }. type1: type2 [ ( .. | ... | CONTROL ) type2 ].");
        P.rules("a = 1 / 2", 1);
        P.faultAt("a = 1 /@@", 1);
        P.faultAt("a = @@/ 1", 1);
        P.faultAt("a = 1 / @@/ 2", 1);
        P.rules("a = 1 .. 2 / 3 ... 4 / 5 .size 6", 1);
        P.faultAt("a = 1 ..@@", 1);
        P.faultAt("a = 1 ...@@", 1);
        P.faultAt("a = 1 .size@@", 1);
        P.faultAt("a = @@.. 1", 1);
        P.faultAt("a = @@.size 1", 1);
        P.faultAt("a = 1 .. 2 @@.. 3", 1);
        P.faultAt("a = 1 .. 2 @@.size 3", 1);
        P.faultAt("a = 1 .size 2 @@.size 3", 1);
        P.faultAt("a = 1 .size 2 @@... 3", 1);
        P.rules("a = (1 .size 2) .size 3", 1);
        P.rules("a = 1 .size (2 .size 3)", 1);
        P.says("a = 1 .. 2 / 5").so("01", "02", "05").notSo("03");
    }

    private static void words() {
        Probe.sentence("type2: NUMBER, TEXT, BYTES, NAME [ < type1 { , type1 } > ], ( type ), { group }, [ group ], ~ NAME [ < .. > ], & ( group ), & NAME [ < .. > ]");
        P.rules("a = b<1> b<p> = p", 2);
        P.rules("a = b<1..2, 3 .size 4> b<p, q> = p", 2);
        P.faultAt("a = b<@@> b<p> = p", 1);
        P.faultAt("a = b<1 @@/ 2> b<p> = p", 1);
        P.rules("a = b<(1 / 2)> b<p> = p", 2);
        P.faultAt("a = b<1,@@> b<p> = p", 1);
        P.faultAt("a = b<@@,1> b<p> = p", 1);
        P.faultAt("a = b<1 @@2> b<p> = p", 1);
        P.faultAt("a = b<@@? 1> b<p> = p", 1);
        P.faultAt("a = b<1 @@=> 2> b<p> = p", 1);
        P.faultAt("a = b<x@@: 2> b<p> = p", 1);
        P.faultAt("a = b<1@@", 1);
        P.faultAt("a = (@@", 1);
        P.faultAt("a = (1@@", 1);
        P.faultAt("a = {@@", 1);
        P.faultAt("a = [@@", 1);
        P.faultAt("a = [@@}", 1);
        P.faultAt("a = {@@]", 1);
        P.faultAt("a = [1@@)", 1);
        P.faultAt("a = ~@@", 1);
        P.faultAt("a = ~@@1", 1);
        P.faultAt("a = ~@@~time", 1);
        P.faultAt("a = ~@@(time)", 1);
        P.faultAt("a = ~@@[1]", 1);
        P.faultAt("a = &@@", 1);
        P.faultAt("a = &@@1", 1);
        P.faultAt("a = &@@[1]", 1);
        P.faultAt("a = &@@&g", 1);
        P.rules("a = &()", 1);
        P.rules("a = &(1, 2 // 3)", 1);
        P.faultAt("a = &(1@@", 1);
        P.faultAt("a = &(1@@]", 1);
        Probe.sentence("#6 [. UINT] ( type ), # with 0 .. 5 alone, #7 [. UINT], # alone (no digit behind).");
        P.rules("a = #6(1)", 1);
        P.rules("a = #6.5 (1 / 2)", 1);
        P.faultAt("a = #6@@", 1);
        P.faultAt("a = #6@@[1]", 1);
        P.faultAt("a = #6(@@)", 1);
        P.faultAt("a = #6(1@@, 2)", 1);
        P.faultAt("a = #6(@@? 1)", 1);
        P.faultAt("a = #6(x@@: 1)", 1);
        P.faultAt("a = #6(1@@", 1);
        P.faultAt("a = #6 @@/ 1", 1);
        P.rules("a = #", 1);
        P.rules("a = #7", 1);
        P.rules("a = #7.1", 1);
        P.rules("a = [#7(1)]", 1);
        P.faultAt("a = #7@@(1)", 1);
        for (int d = 0; d <= 9; d++) {
            if (d < 6) P.rules("a = #" + d, 1);
            else if (d > 7) P.faultAt("a = @@#" + d, 1);
            if (d < 6 || d > 7) P.faultAt("a = @@#" + d + ".1", 1);
            if (d > 7) P.faultAt("a = @@#" + d + "(1)", 1);
        }
    }

    private static void groups() {
        Probe.sentence("group: choice { // choice }. choice: { entry [ , ] }.");
        P.says("a = []").so("80").notSo("8100");
        P.says("a = [//]").so("80").notSo("8100");
        P.says("a = [// 1]").so("80").notSo("8101");
        P.says("a = [1 //]").so("80", "8101").notSo("8102");
        P.says("a = [1,]").so("8101");
        P.says("a = [1, // 2,]").so("8101", "8102");
        P.says("a = [1 2, 3 , 4]").so("8401020304");
        P.faultAt("a = [@@,]", 1);
        P.faultAt("a = [@@, 1]", 1);
        P.faultAt("a = [1,@@,]", 1);
        P.faultAt("a = [1 // @@, 2]", 1);
        P.faultAt("a = [1 //@@/ 2]", 1);
        P.faultAt("a = [1 // 2@@", 1);
        P.faultAt("a = [1,@@", 1);
        P.faultAt("a = [1 @@= 2]", 1);
    }

    private static void entries() {
        Probe.sentence("entry: [ OCCUR ] [ key ] type, or [ OCCUR ] ( group ).");
        P.rules("a = [* x: 1, ? 1 => 2, + (1, 2), 2 (3)]", 1);
        P.faultAt("a = [*@@]", 1);
        P.faultAt("a = [* @@* 1]", 1);
        P.faultAt("a = [* @@, 1]", 1);
        P.faultAt("a = [* @@// 1]", 1);
        P.faultAt("a = [x:@@]", 1);
        P.faultAt("a = [x: @@* 1]", 1);
        P.faultAt("a = [x: y@@: 1]", 1);
        P.faultAt("a = [1 => @@]", 1);
        P.faultAt("a = [1 => 2 @@=> 3]", 1);
        P.faultAt("a = [(1, 2) @@/ 3]", 1);
        P.faultAt("a = [x: (1@@, 2)]", 1);
        P.faultAt("a = [(1, 2@@", 1);
        P.faultAt("a = [* (1, 2@@]", 1);
    }

    private static void keys() {
        Probe.sentence("key: NAME : , a NUMBER, TEXT or BYTES and : , or type1 [ ^ ] => .");
        P.rules("a = {x: 1, 1: 1, -1: 1, \"x\": 1, 'x': 1, h'00': 1, int => 1, 1..2 => 1, 1 .size 1 ^ => 1, [1] => 1, (1 / 2) => 1, b<1> => 1} b<p> = p", 2);
        P.faultAt("a = {b<1>@@: 1} b<p> = p", 1);
        P.faultAt("a = {[1]@@: 1}", 1);
        P.faultAt("a = {1..2@@: 1}", 1);
        P.faultAt("a = {#@@: 1}", 1);
        P.faultAt("a = {~b@@: 1}", 1);
        P.faultAt("a = {(1)@@: 1}", 1);
        P.faultAt("a = {1 / 2 @@=> 1}", 1);
        P.faultAt("a = {1 ^@@}", 1);
        P.faultAt("a = {1 ^ @@1}", 1);
        P.faultAt("a = {1 ^ @@: 1}", 1);
        P.faultAt("a = {x: @@^ => 1}", 1);
        P.faultAt("a = {1 : @@=> 2}", 1);
        P.faultAt("a = {x ^@@^ => 1}", 1);
        P.faultAt("a = {@@1.5: 1}", 7);
        P.rules("a = {x : 1, x :1, x: 1}", 1);
    }

    private static void parens() {
        Probe.sentence("What begins with ( is a type (or key), if it can be read so (that reading goes on where / .. ... a CONTROL, ^ or => stand behind it, and fails as a whole if what must come behind one of these does not; => makes a key), else ( group ).");
        kind("a = (1)", 0, 0);
        kind("a = ((1))", 0, 0);
        kind("a = (1,)", 0, 1);
        kind("a = ()", 0, 1);
        kind("a //= (1)", 0, 1);
        // A type in ( ) is one entry, for which & stands for what it is; a group's entries each.
        P.says("a = [(1) / 2]").so("8101", "8102").notSo("820102");
        P.says("a = {(1) => 2}").so("a10102").notSo("a0");
        P.says("a = {(1) ^ => 2}").so("a10102").notSo("a0");
        P.says("a = [(1 / 2) .and 2]").so("8102").notSo("8101");
        P.says("a = [(1, 2)]").so("820102").notSo("8101");
        P.says("a = [((1, 2), 3)]").so("83010203").notSo("820103");
        P.says("a = [(1) (2)]").so("820102").notSo("8101");
        P.says("a = [(1) 2]").so("820102").notSo("8102");
        P.says("a = [(x: 1)]").so("8101").notSo("80");
        P.says("a = [(1 => 2)]").so("8102").notSo("8101");
        P.faultAt("a = [(1) @@/ ]", 1);
        P.faultAt("a = [(1) @@.. ]", 1);
        P.faultAt("a = [(1) @@... ]", 1);
        P.faultAt("a = [(1) @@.size ]", 1);
        P.faultAt("a = [(1) @@^ ]", 1);
        P.faultAt("a = [(1) @@^ 1]", 1);
        P.faultAt("a = [(1) @@=> ]", 1);
        P.faultAt("a = [(1) @@^ => ]", 1);
        P.faultAt("a = [(1) @@=> (1, 2)]", 1);
        P.faultAt("a = [(1) @@/ (1, 2)]", 1);
        P.faultAt("a = [(1, 2) @@/ 1]", 1);
        P.faultAt("a = [(1, 2) @@=> 1]", 1);
        P.faultAt("a = [(1) @@: 1]", 1);
        P.faultAt("a = [(1) @@/ 2 .. ]", 1);
        P.rules("a = [(1) / 2 (3)]", 1);
    }

    private static void twoReadings() {
        Probe.sentence("of what is read in two ways that of the second one.");
        // As a type it fails behind, as an entry or a group sooner.
        P.faultAt("a = (1) @@/ (2, 3)", 1);
        P.faultAt("a = (1) @@=> (2, 3)", 1);
        P.faultAt("a = [(1) @@/ [1] / ]", 1);
        P.faultAt("a = ((1 / (2@@, 3)))", 1);
        P.faultAt("a = [(1 / (2@@, 3))]", 1);
        P.faultAt("a = [(1 // 2@@]", 1);
        P.faultAt("a = (1 @@= 2)", 1);
        P.faultAt("a = (1, 2) @@3", 1);
        P.faultAt("a = (1 / 2@@", 1);
        P.faultAt("a = (* 1) @@/ 2", 1);
        P.faultAt("a = x: 1 @@=> 2", 1);
        P.faultAt("a = (1) @@/ ", 1);
        P.faultAt("a //= (1) @@/ ", 1);
        P.faultAt("a = [(1) @@=> 2 / ]", 1);
        P.faultAt("a = [(1) @@/ b<]", 1);
        P.faultAt("a = [* (1) @@/ ]", 1);
        P.faultAt("a = ((1) @@/ )", 1);
        // Where a type alone can stand, and behind what has been read as one, there is one way.
        P.faultAt("a /= (1) /@@", 1);
        P.faultAt("a = [x: (1) / @@]", 1);
        P.faultAt("a = [1 => (1) .. @@]", 1);
        P.faultAt("a = [1 / (2) / @@]", 1);
        P.faultAt("a = #6((1) / @@)", 1);
        P.faultAt("a = b<(1) .. @@>", 1);
        P.faultAt("a = [(1) / 2 @@=> 3]", 1);
        P.faultAt("a = [(1) .size 1 @@.size 2]", 1);
        P.faultAt("a = [(1) => 2 @@=> 3]", 1);
        P.faultAt("a = [@@(1) .. 2 => 3]", 8);
    }

    private static void betweenTokens() {
        Probe.sentence("There may be blanks between any two tokens.");
        String[] tokens = {"a", "<", "p", ",", "q", ">", "=", "p", "/", "{", "x", ":", "1", ",", "1", "^", "=>", "q", "//", "2*3", "(", "h'00'", "'x'", "\"y\"", ")", "}", "/", "~", "time", "/", "&", "(", "3", ")",
            "/", "-1", "..", "4", "/", "#6.1", "(", "#", ")", "/", "[", "#2", ".size", "5", "]", "b", "=", "a", "<", "6", ",", "7", ">"};
        for (String blank : new String[] {" ", "\n", "\r", "; x\n", " \r\n ;\n "}) {
            StringBuilder text = new StringBuilder(blank);
            for (String token : tokens) text.append(token).append(blank);
            P.rules(text.toString(), 2);
        }
        P.rules("a<p,q>=p/{x:1,1^=>q//2*3(h'00''x'\"y\")}/~time/&(3)/-1..4/#6.1(#)/[#2 .size 5]b=a<6,7>", 2);
    }

    private static void places() {
        Probe.sentence("FAULT 1, at the first byte of the first token that cannot stand there (the text's length for its end), or where none begins, or one that is too long");
        P.fault("a", 1, 1);
        P.fault("a ", 1, 2);
        P.fault("a \n", 1, 3);
        P.fault("a ;b", 1, 4);
        P.fault("a = ", 1, 4);
        P.fault("a = [1", 1, 6);
        P.fault("a = [1 )", 1, 7);
        P.fault("a = [1 \"x]", 1, 7);
        P.fault("a = [1 %]", 1, 7);
        P.fault("%", 1, 0);
        P.fault(" %", 1, 1);
        P.fault("=", 1, 0);
        P.fault("a = 1 " + N31 + "nn", 1, 6);
        P.fault(Probe.times(" ", 2999) + "a", 1, 3000);
        P.fault(Probe.times(" ", 2999) + "%", 1, 2999);
        // The first one, though others come behind it.
        P.fault("a = % = %", 1, 4);
        P.fault("a = 1.5 ) b", 1, 8);
    }

    private static void tooManyTokens() {
        Probe.sentence("Also 1, there: the 301st token");
        String t299 = "a = 1" + Probe.times(" / 1", 148);
        P.rules(t299, 1);
        P.rules("a = [" + Probe.times("1 ", 50) + "]" + Probe.times(" / 1", 122) + " / -2", 1);
        P.fault("a = [" + Probe.times("1 ", 50) + "]" + Probe.times(" / 1", 122) + " / -2 / 2", 1, 5 + 100 + 1 + 4 * 122 + 6);
        P.fault(t299 + " / 1", 1, t299.length() + 3);
        P.fault(t299 + " /", 1, t299.length() + 2);
        P.fault(t299 + " x = 1", 1, t299.length() + 3);
        P.fault(t299 + " =", 1, t299.length() + 1);
        P.fault(t299 + " %", 1, t299.length() + 1);
        P.rules("a = 1 b /= 1" + Probe.times(" / 1", 147), 2);
        P.fault("a = 1 b /= 1" + Probe.times(" / 1", 147) + " c = 1", 1, 12 + 4 * 147 + 1);
        P.rules("a = 1 b /= 1" + Probe.times(" / 1", 147) + " ; more = 1", 2);
        P.fault(Probe.times("a /= 1 ", 100) + "a /= 1", 1, 700);
        P.rules(Probe.times("a /= 1 ", 100), 1);
        // A FAULT behind the form is none while the form has one.
        P.fault(Probe.times("a = 1.5 ", 100) + "a", 1, 800);
        P.fault(Probe.times("a = 1.5 ", 100), 7, 4);
    }

    private static void tooManyOpen() {
        Probe.sentence("the 17th that is open at once of ( { [ < .");
        String[] opens = {"(", "[", "{1 => ", "#6(", "&(", "b<"};
        String[] closes = {")", "]", "}", ")", ")", ">"};
        for (int k = 0; k < opens.length; k++) {
            String tail = k == 5 ? " b<p> = p" : "";
            Probe.due("16 times " + opens[k], P.grammar("a = " + Probe.times(opens[k], 16) + "1" + Probe.times(closes[k], 16) + tail) == -1 ? 1 : 0, 0);
            int sign = opens[k].startsWith("{") ? 0 : opens[k].length() - 1;
            P.fault("a = " + Probe.times(opens[k], 17) + "1" + Probe.times(closes[k], 17) + tail, 1, 4 + 16 * opens[k].length() + sign);
            P.fault("a = " + Probe.times("[", 16) + opens[k] + "1" + closes[k] + Probe.times("]", 16) + tail, 1, 4 + 16 + sign);
            P.rules("a = " + Probe.times("[", 15) + "[]" + opens[k] + "1" + closes[k] + Probe.times("]", 15) + tail, k == 5 ? 2 : 1);
        }
        P.rules("a = [" + Probe.times("[]", 100) + "]", 1);
        P.rules("a = " + Probe.times("[", 16) + Probe.times("]", 16), 1);
        P.faultAt("a = " + Probe.times("[", 16) + "@@[", 1);
        P.faultAt("a = " + Probe.times("[", 15) + "b<@@<", 1);
        P.rules("a<p> = " + Probe.times("[", 16) + Probe.times("]", 16), 1);
    }
}
