/** Promises 4 to 11: the texts and tapes that need most room. What stands first or last, and how much is before it, makes no difference. */
public final class RoomTest {
    private static final Probe P = new Probe();
    private static final String NINE = Probe.times("81", 9);

    public static void main(String[] args) {
        callsThatNothingUses();
        callsOfEachKind();
        callsThatAreUsed();
        callsAndFaults();
        manyTokens();
        manyRules();
        manyNodes();
        longTexts();
        manyArguments();
        largeGroups();
        largeMaps();
        deepTypes();
        deepNumbers();
        joinedParts();
        manyItems();
        mostAnswers();
        lastItems();
        longMaps();
        Probe.finish();
    }

    /** a<a<..a<leaf>..>>, so many of a. */
    private static String nested(int n, String leaf) {
        return Probe.times("a<", n) + leaf + Probe.times(">", n);
    }

    /** So many NAMES with < >, of rule a, in rows of at most 15. */
    private static String calls(int n, String leaf, String between) {
        StringBuilder text = new StringBuilder(nested(n % 15, leaf));
        for (int i = 0; i < n / 15; i++) text.append(between).append(nested(15, leaf));
        return text.toString();
    }

    private static void says(String rules, int rule, String hex, int want) {
        P.says(rules);
        Probe.due("item " + hex, P.item(hex) > 0 ? 1 : 0, 1);
        Probe.due(hex + " as rule " + rule + " of " + rules, P.judge.judge(rule, 0), want);
    }

    /** In a rule with parameters that has no INSTANCE stand n NAMES with < >, before and behind those that are used. */
    private static void callsThatNothingUses() {
        for (int n = 1; n <= 91; n++) {
            String unused = "u<t>=[" + calls(n, "t", " ") + "]";
            says("a<t>=t " + unused + "r=a<int>", 2, "60", 0);
            says("a<t>=t " + unused + "r=a<int>", 2, "05", 1);
            says("r=a<int>" + unused + "a<t>=t", 0, "60", 0);
            says("r=a<int>" + unused + "a<t>=t", 0, "05", 1);
        }
        P.rules("a<t>=t u<t>=[" + calls(91, "t", " ") + "]r=a<int>", 3);
        String types = Probe.times(nested(16, "t") + "/", 5) + nested(10, "t");
        says("a<t>=t r=a<int> u<t>=" + types, 1, "60", 0);
        says("a<t>=t u<t>=" + types + "r=a<int>", 2, "60", 0);
    }

    private static void callsOfEachKind() {
        String many = "a<t>=t u<t>=[" + calls(80, "t", " ") + "]";
        says(many + "b<p>=#6(p) r=~b<int>", 3, "05", 1);
        says(many + "b<p>=#6(p) r=~b<int>", 3, "60", 0);
        says(many + "g<p>=(p,p) r=&g<int>", 3, "05", 1);
        says(many + "g<p>=(p,p) r=&g<int>", 3, "60", 0);
        says(many + "g<p>=(p,p) r=[g<int>]", 3, "820506", 1);
        says(many + "g<p>=(p,p) r=[g<int>]", 3, "820560", 0);
        says(many + "g<p>=(p=>p) r={g<int>}", 3, "a10506", 1);
        says(many + "g<p>=(p=>p) r={g<int>}", 3, "a10560", 0);
        says(many + "b<p>=[p] r=[~b<int>]", 3, "8105", 1);
        says(many + "b<p>=[p] r=[~b<int>]", 3, "8160", 0);
        says(many + "r=#2 .size a<(2/3)>", 2, "420000", 1);
        says(many + "r=#2 .size a<(2/3)>", 2, "4100", 0);
        says(many + "r=#2 .bits a<(2/3)>", 2, "4104", 1);
        says(many + "r=#2 .bits a<(2/3)>", 2, "4102", 0);
        says(many + "r=#2 .cbor a<int>", 2, "4105", 1);
        says(many + "r=#2 .cbor a<int>", 2, "4160", 0);
        says(many + "r=a<a<int>>", 2, "05", 1);
        says(many + "r=a<a<int>>", 2, "60", 0);
        says(many + "c<x>=a<(x)> r=c<int>", 3, "05", 1);
        says(many + "c<x>=a<(x)> r=c<int>", 3, "60", 0);
    }

    /** Each of the many NAMES with < > is asked. */
    private static void callsThatAreUsed() {
        int one = 69;
        P.says("r=u<int>a<t>=t u<t>=[" + Probe.times("a<t>", one) + "]");
        for (int i = 0; i < one; i++) P.notSo("9845" + Probe.times("05", i) + "60" + Probe.times("05", one - 1 - i));
        P.so("9845" + Probe.times("05", one));
        int two = 39;
        P.says("r=u<int>a<t>=t u<t>=[" + Probe.times("a<a<t>>", two) + "]");
        for (int i = 0; i < two; i++) P.notSo("9827" + Probe.times("05", i) + "60" + Probe.times("05", two - 1 - i));
        P.so("9827" + Probe.times("05", two));
    }

    private static void callsAndFaults() {
        String many = "a<t>=t u<t>=[" + calls(77, "t", " ") + "]";
        String open = Probe.times("(", 13);
        String close = Probe.times(")", 13);
        P.rules(many + "r=" + open + "a<int>" + close, 3);
        tooMuch(many + "r=(" + open + "a<int>" + close + ")");
        P.rules(many + "b<x>=#6(x)r=" + open + "~b<(1)>" + close, 4);
        tooMuch(many + "b<x>=#6(x)r=(" + open + "~b<(1)>" + close + ")");
        tooMuch(many + "c<x>=(" + open + "x" + close + ")r=c<(int)>");
        tooMuch(many + "c<x>=[c<[x]>]r=c<1>");
        P.faultAt(many + "@@r=a<r>", 9);
        P.faultAt(many + "r=#6(~@@b<1>)b<x>=#6(~b<x>/1)".replace("~@@b<1>", "~b<1>").replace("~b<x>", "~@@b<x>"), 9);
        P.faultAt(many + "r=@@a<1,2>", 5);
        P.faultAt(many + "r=a<@@zz>", 4);
        // 64 INSTANCES, and one more: the last ones are behind the most NAMES with < > that leave room for them.
        String used = Probe.times(nested(8, "1") + " ", 8);
        P.rules("a<t>=t u<t>=[" + calls(27, "t", " ") + "]r=[" + used + "]", 3);
        tooMuch("a<t>=t u<t>=[" + calls(25, "t", " ") + "]r=[" + used + "a<1>]");
    }

    private static void tooMuch(String rules) {
        P.fault(rules, 10, rules.length());
    }

    private static void manyTokens() {
        P.says("a=[" + Probe.times("// ", 295) + "1]").so("80");
        P.fault("a=[" + Probe.times("// ", 297), 1, 3 + 3 * 297);
        P.fault("a=[" + Probe.times("// ", 296) + "]]", 1, 3 + 3 * 296 + 1);
        P.says("a=[" + Probe.times("2..2// ", 73) + "1,3,]").so("8102", "820103");
        P.notSo("80", "8101", "820102");
        P.says("a=" + Probe.times("2/ ", 147) + "1/3").so("01", "02", "03");
        P.notSo("00", "04");
        P.faultAt("a=" + Probe.times("2/ ", 147) + "1/3/@@4", 1);
        P.fault("a=" + Probe.times("2/ ", 149), 1, 2 + 3 * 149);
    }

    private static void manyRules() {
        StringBuilder text = new StringBuilder();
        for (int i = 0; i < 100; i++) text.append("a/=").append(i).append(' ');
        P.rules(text.toString(), 1);
        Probe.due("choices of many rules", P.judge.rule(0, -4), 100);
        P.so("00", "184c", "1863");
        P.notSo("1864", "20");
        P.rules("a=[g]" + Probe.times("g//=1 ", 98), 2);
        Probe.due("choices of many groups", P.judge.rule(1, -4), 98);
        P.fault(Probe.times("a=1 ", 100), 2, 4);
        P.fault(text + "a", 1, text.length());
        text.setLength(0);
        for (int i = 0; i < 100; i++) text.append("a").append(i).append("=1 ");
        P.fault(text.toString(), 3, text.indexOf("a24="));
        P.fault("a=" + Probe.times("b=c=", 100), 1, 3);
        P.fault("a<" + Probe.times("b,", 146) + "b>=1", 2, 4);
    }

    private static void manyNodes() {
        String open = "a=" + Probe.times("[", 16);
        P.fault(open + Probe.times("1 ", 282), 1, open.length() + 2 * 282);
        open = "a=" + Probe.times("{", 16);
        P.fault(open + Probe.times("1 ", 282), 1, open.length() + 2 * 282);
        P.fault(open + Probe.times("1 ", 282) + "1", 1, open.length() + 2 * 282);
        tooMuch("a=[" + Probe.times("1 ", 296) + "]");
        String row = "=[" + Probe.times("1 ", 99) + "2]";
        String most = "a" + row + "b" + row + "c=[" + Probe.times("1 ", 87) + "3]";
        says(most, 0, "9864" + Probe.times("01", 99) + "02", 1);
        says(most, 1, "9864" + Probe.times("01", 100), 0);
        says(most, 2, "9858" + Probe.times("01", 87) + "03", 1);
        says(most, 2, "9858" + Probe.times("01", 88), 0);
        P.says("a=" + Probe.times("[", 15) + Probe.times("1 ", 50) + Probe.times("]", 15) + "/" + Probe.times("1..1/", 53) + "1..2").so("02", "01");
        P.notSo("00", "03");
    }

    private static void longTexts() {
        String most = Probe.times("xyz", 998) + "xy";
        String hex = Probe.times("78797a", 998) + "7879";
        P.says("a=\"" + most + "\"").so("790bb4" + hex);
        P.notSo("790bb4" + hex.substring(2) + "7a", "590bb4" + hex, "790bb3" + hex.substring(2));
        P.says("a=h'" + hex.substring(0, 2994) + "'").so("5905d9" + hex.substring(0, 2994));
        P.fault("a='" + most, 1, 2);
        P.fault("a=1 '" + most, 1, 4);
        String five = Probe.times("'12345'", 294);
        P.says("a=[" + five.substring(0, 100 * 7) + "]/[" + five.substring(0, 100 * 7) + "]/['12345'*'54321'" + five.substring(0, 80 * 7) + "]");
        P.so("9851" + Probe.times("453132333435", 81), "9864" + Probe.times("453132333435", 100), "9852" + "453132333435" + "453534333231" + Probe.times("453132333435", 80));
        P.notSo("9851" + Probe.times("453132333435", 80) + "453132333436");
    }

    /** 62 INSTANCES, each of eight arguments or one. */
    private static void manyArguments() {
        StringBuilder text = new StringBuilder("a=");
        for (int i = 0; i < 31; i++) text.append(i > 0 ? "/q<" : "q<").append(i).append('>');
        text.append("q<x>=s<(x),(x),(x),(x),(x),(x),(x),(x)>s<k,l,m,n,o,p,q,r>=[k,l,m,n,o,p,q,r]");
        P.says(text.toString()).so("88" + Probe.times("00", 8), "88" + Probe.times("17", 8), "88" + Probe.times("181e", 8));
        P.notSo("88" + Probe.times("181e", 7) + "00", "88" + Probe.times("181f", 8), "8800" + Probe.times("181e", 7), "88" + Probe.times("00", 7) + "01");
    }

    private static void largeGroups() {
        String name = "g g";
        StringBuilder text = new StringBuilder("g=(" + Probe.times("1 ", 47) + "2)");
        P.says("a=[" + name + "]" + text).so("9860" + Probe.times(Probe.times("01", 47) + "02", 2));
        P.notSo("9860" + Probe.times(Probe.times("01", 47) + "02", 1) + Probe.times("01", 48));
        // Each GROUP is in the one before, as it is told, as often as can be.
        text.setLength(0);
        for (int i = 0; i < 15; i++) text.append(" g").append(i).append("//=g").append(i + 1);
        P.says("a=[g0]" + text + " g15//=7").so("8107");
        P.notSo("8108", "80");
        P.says("a={g0}" + text + " g15//=7=>8").so("a10708");
        P.notSo("a10707", "a0");
        tooMuch("a=[g0]" + text + " g15//=int");
    }

    /** Ten maps in one another, each of 100 entries. */
    private static void largeMaps() {
        String text = "a={g g g g}g=(" + Probe.times("*#=>a ", 23) + ")";
        P.rules(text, 2);
        P.is(Probe.times("a100", 9) + "a0", 1);
        P.is(Probe.times("a100", 9) + "01", 0);
        P.is("a600a001a002a003a004a005a0", 1);
        P.is("a600a001a002a003a004a00501", 0);
        tooMuch("a={g g g g}g=(" + Probe.times("*#=>a ", 23) + "*#=>a)");
        // What is found of a GROUP behind 98 entries is found again for the next time.
        P.says("a={g g g" + Probe.times(" * 1=>1", 23) + " 2*2(? #=>2)}g=(" + Probe.times("* 1=>1 ", 23) + ")").so("a0", "a10702", "a208020702", "a10101");
        P.notSo("a3080207020902", "a10703");
        text = "a={g g g h}g=(" + Probe.times("* 1=>1 ", 23) + ")h=(" + Probe.times("* 1=>1 ", 22) + "*#=>a)";
        P.says(text).so(Probe.times("a100", 9) + "a0", Probe.times("a2010100", 9) + "a0");
        P.notSo(Probe.times("a100", 9) + "01", Probe.times("a2010100", 9) + "02");
    }

    /** Types with a PATH of 16 about each of ten items in one another, three of them in arrays of cborseq. */
    private static void deepTypes() {
        String text = "a=" + Probe.times("&(", 14) + "[*a]/#2 .cborseq[*a]/1,2//3)" + Probe.times(" .and any/1,2//3)", 13);
        P.rules(text, 1);
        P.so(NINE + "80", NINE + "02", NINE + "03", "8281808101");
        P.notSo(NINE + "04", NINE + "60", "8281808104");
        String held = Probe.times("81", 3) + "02";
        for (int i = 0; i < 3; i++) held = "81" + DearTest.held("02" + held);
        P.so(held);
        P.notSo(held.substring(0, held.length() - 2) + "04");
        tooMuch(text + "b=(a)");
        text = "a=[*&g0]";
        for (int i = 0; i < 13; i++) text += "g" + i + "//=&g" + (i + 1) + " .and any/1 g" + i + "//=2 ";
        P.says(text + "g13//=a/integer").so(NINE + "80", NINE + "05", NINE + "20", NINE.substring(2) + "c24100");
        P.notSo(NINE + "60", NINE.substring(2) + "c260");
    }

    /** Numbers of sizes and bits that are asked through a PATH of 16. */
    private static void deepNumbers() {
        String text = "a=#2 .size &g0 ";
        for (int i = 0; i < 14; i++) text += "g" + i + "//=&g" + (i + 1) + " .and any/1 g" + i + "//=2 ";
        P.says(text + "g14//=integer").so("4100", "43000000", DearTest.held(Probe.times("00", 2900)));
        P.says(text + "g14//=uint .size 0").so("4100", "420000", "40");
        P.notSo("43000000", DearTest.held(Probe.times("00", 2900)));
        text = "a=#2 .bits " + Probe.times("&(", 14) + "integer .size 1/300,301//302)" + Probe.times(" .and any/300,301//302)", 13);
        P.says(text).so("41ff", "5820" + Probe.times("ff", 32), "5826" + Probe.times("00", 37) + "70");
        P.notSo("5821" + Probe.times("00", 32) + "01", "5826" + Probe.times("00", 37) + "08", "5826" + Probe.times("00", 37) + "80");
    }

    /** Bytes of parts: as many of them as can be. */
    private static String parted(String hex) {
        StringBuilder parts = new StringBuilder("5f");
        for (int i = 0; i < hex.length(); i += 510) parts.append(DearTest.held(hex.substring(i, Math.min(hex.length(), i + 510))));
        return parts + "ff";
    }

    /** Four bytes of parts, each in the one before. */
    private static void joinedParts() {
        int n = 2880;
        String held = parted(Probe.times("7a", n));
        for (int i = 0; i < 3; i++) held = parted(held);
        P.says("a=#2 .cbor(#2 .cbor(#2 .cbor '" + Probe.times("z", n) + "'))").so(held);
        P.says("a=#2 .cbor(#2 .cbor(#2 .cbor '" + Probe.times("z", n - 1) + "y'))").notSo(held);
        P.says("a=#2 .cbor(#2 .cbor(#2 .cbor(#2 .size " + n + ")))").so(held);
        for (int i = 0; i < 9; i++) P.illFormed(held.substring(0, held.length() - 2), held.length() / 2 - 1);
        Probe.due("the ITEM that stays", P.judge.judge(0, 0), 1);
    }

    /** Some 2900 items in bytes, of which the last one makes the difference. */
    private static void manyItems() {
        String third = DearTest.held(Probe.times("02", 98));
        String second = DearTest.held(Probe.times(third, 9));
        String first = Probe.times(second, 3);
        P.says("a=[*b]b=2/#2 .cborseq[*b]").so("83" + first);
        P.notSo("83" + first.substring(0, first.length() - 2) + "03");
        second = DearTest.held(Probe.times("41024102", 45));
        first = Probe.times(second, 15);
        P.so("8f" + first);
        P.notSo("8f" + first.substring(0, first.length() - 2) + "03");
    }

    /** As many answers are kept as one call can find. */
    private static void mostAnswers() {
        StringBuilder text = new StringBuilder("a=[*b]b=");
        for (int i = 0; i < 10; i++) text.append("q<").append(i + 100).append(">/");
        text.append("2/[*b]/#2 .cborseq[*b]q<x>=");
        for (int i = 0; i < 5; i++) text.append(i > 0 ? "/" : "").append("s<(x),(x),(x),(x),(x),(x),(x),(x)>");
        text.append("s<k,l,m,n,o,p,q,r>=k/l/m/n/o/p/q/r");
        String third = DearTest.held(Probe.times("02", 90));
        String first = Probe.times(DearTest.held(Probe.times(third, 9)), 3);
        P.says(text.toString()).so("83" + first);
        P.notSo("83" + first.substring(0, first.length() - 2) + "03");
    }

    private static void told(int item, long... due) {
        for (int what = 0; what < due.length; what++) Probe.due("node " + item + ", " + what, P.judge.node(item, what), due[what]);
    }

    /** What bytes hold takes no place of the ITEM's own 200. */
    private static void lastItems() {
        String row = Probe.times("05", 100);
        P.says("a=[b,[* 5],[* 5,6]]b=#2 .cbor[* 7]").so("83" + DearTest.held("9820" + Probe.times("07", 32)) + "9864" + row + "985f" + Probe.times("05", 94) + "06");
        told(198, 0, 6, 0, 235, 236, 103);
        told(103, 4, 95, 1, 139, 236, 0);
        P.items("82" + "9864" + row + "9861" + Probe.times("05", 96) + "06", 200);
        told(199, 0, 6, 0, 201, 202, 102);
        Probe.due("no item 200", P.judge.node(200, 0), -1);
        Probe.due("text of item 199", P.judge.write(199), 1);
        Probe.due("item 199 as a", P.judge.judge(0, 199), 0);
    }

    /** The shortest form of the longest maps: by their keys, whatever is in them. */
    private static void longMaps() {
        StringBuilder from = new StringBuilder("81b863");
        StringBuilder to = new StringBuilder("81b863");
        for (int i = 0; i < 99; i++) {
            from.append(String.format("18%02x00", 200 - i));
            to.append(String.format("18%02x00", 102 + i));
        }
        P.items(from.toString(), 200);
        Probe.due("how many bytes", P.judge.shorten(0), 3 + 3 * 99);
        Probe.due("the longest map", P.outHex(), to.toString());
        String big = DearTest.held(Probe.times("61", 1400));
        P.items("a3" + "03" + big + "02" + big + "0100", 7);
        Probe.due("how many bytes", P.judge.shorten(0), 1 + 2 * (1 + 1403) + 2);
        Probe.due("the map of most bytes", P.outHex(), "a3" + "0100" + "02" + big + "03" + big);
    }
}
