/** Section 2 of THE TAPE, sentence by sentence: what rules mean and the FAULTS 2 to 10, at the edges that it names and on both sides of them. */
public final class EdgeRuleTest {
    private static final Probe P = new Probe();

    public static void main(String[] args) {
        oneRule();
        manyRules();
        kinds();
        prelude();
        order();
        sameToken();
        toldTwice();
        ofThePrelude();
        otherKind();
        otherParameters();
        parameterTwice();
        tooManyRules();
        unknownNames();
        howManyArguments();
        floats();
        groupsForTypes();
        typesBehindAnd();
        unwrapOfOther();
        unwrapElsewhere();
        controls();
        rangeEnds();
        comparedWith();
        loops();
        noLoops();
        loopsOfUnwraps();
        unwrapsOfThemselves();
        firstLoop();
        tooManyInstances();
        sameInstances();
        tooManyEntries();
        countedEntries();
        longPathsOfNames();
        longPathsOfBrackets();
        longPathsOfArguments();
        longPathsOfUnwraps();
        pathsBegunAnew();
        lastFault();
        Probe.finish();
    }

    private static void tooMuch(String rules) {
        P.fault(rules, 10, rules.length());
    }

    private static void choices(String rules, int rule, int due) {
        P.says(rules);
        Probe.due("choices of rule " + rule + " of " + rules, P.judge.rule(rule, -4), due);
    }

    private static void kind(String rules, int rule, int group) {
        P.says(rules);
        Probe.due("kind of rule " + rule + " of " + rules, P.judge.rule(rule, -3), group);
    }

    /** r0 = 1 r1 = 1 .. */
    private static String rows(int n) {
        StringBuilder rules = new StringBuilder();
        for (int i = 0; i < n; i++) rules.append("r").append(i).append(" = 1 ");
        return rules.toString();
    }

    /** r0 = r1 .. rn = what stands at the end. */
    private static String chain(int n, String end) {
        StringBuilder rules = new StringBuilder();
        for (int i = 0; i < n; i++) rules.append("r").append(i).append(" = r").append(i + 1).append('\n');
        return rules.append("r").append(n).append(" = ").append(end).toString();
    }

    private static String wrap(int n, String inner) {
        return Probe.times("(", n) + inner + Probe.times(")", n);
    }

    private static void oneRule() {
        Probe.sentence("Each NAME has one RULE, told with = once; /= (types), //= (entries) add choices, in the order of the text (NAME = may come behind them, too); so NAME = type and NAME /= type is type / type.");
        P.rules("a = 1", 1);
        P.rules("a = 1 a /= 2", 1);
        P.rules("a /= 1 a = 2", 1);
        P.rules("a /= 1 a /= 2 a = 3 a /= 4", 1);
        P.faultAt("a = 1 @@a = 2", 2);
        P.faultAt("a /= 1 a = 2 @@a = 3", 2);
        P.faultAt("a = 1 a /= 2 @@a = 3", 2);
        P.faultAt("a = (1, 2) @@a = (1, 2)", 2);
        P.rules("a //= 1 a = (2, 3) a //= 4", 1);
        P.says("a = 1 a /= 2").so("01", "02").notSo("03");
        P.says("a /= 1 a = 2 a /= 3 / 4").so("01", "02", "03", "04").notSo("05");
        // The first choice that takes is taken: in the order of the text.
        P.says("a = [g, 3] g //= 1 g //= (1, 2)").so("820103").notSo("83010203");
        P.says("a = [g, 3] g //= (1, 2) g //= 1").so("820103", "83010203").notSo("8103");
        P.says("a = [g, 3] g //= 1 g = (1, 2)").so("820103").notSo("83010203");
        P.says("a = [g, 3] g = (1, 2) g //= 1").so("820103", "83010203").notSo("8103");
    }

    private static void manyRules() {
        Probe.sentence("24 RULES at most, numbered from 0 as their NAMES come.");
        P.rules(rows(23), 23);
        P.rules(rows(24), 24);
        P.faultAt(rows(24) + "@@r24 = 1", 3);
        P.rules(rows(24) + "r0 /= 1 r23 /= 1 r12 /= 1", 24);
        P.says("x = z y /= 1 z = x2 x /= y x2 = 1");
        String names = "xyz";
        for (int k = 0; k < 3; k++) Probe.due("NAME of rule " + k, P.judge.rule(k, 0), names.charAt(k));
        Probe.due("NAME of rule 3", P.judge.rule(3, -1), 2);
        Probe.due("no rule 4", P.judge.rule(4, -1), -1);
    }

    private static void kinds() {
        Probe.sentence("A rule of an entry is a GROUP, of a type a TYPE; but a TYPE that is just a NAME, perhaps with < >, (or that in ( ) ) of a GROUP is that GROUP (also by others).");
        String g = " g = (1, 2) h<p> = (p, p)";
        kind("a = 1" + g, 0, 0);
        kind("a //= 1" + g, 0, 1);
        kind("a = x: 1" + g, 0, 1);
        kind("a = g" + g, 0, 1);
        kind("a = (g)" + g, 0, 1);
        kind("a = ((g))" + g, 0, 1);
        kind("a = " + wrap(14, "g") + g, 0, 1);
        kind("a = h<1>" + g, 0, 1);
        kind("a = (h<1>)" + g, 0, 1);
        kind("a = b b = c c = g" + g, 0, 1);
        kind("a = b b = (c) c = b2 b2 = h<1>" + g, 0, 1);
        kind("a /= g" + g, 0, 1);
        kind("a = b b = c c = 1" + g, 0, 0);
        kind("a = b b //= 1" + g, 0, 1);
        kind("a = &g" + g, 0, 0);
        kind("a = [g]" + g, 0, 0);
        kind("a = $$x" + g, 0, 1);
        kind("a = $x" + g, 0, 0);
        kind("a = b b = ($$x)" + g, 0, 1);
        kind("a = int" + g, 0, 0);
        kind("a<p> = p" + g, 0, 0);
        kind("a<p> = h<p>" + g, 0, 1);
        // In a rule that is no INSTANCE there may be as many ( as can be open.
        kind("a<p> = " + wrap(15, "g") + g, 0, 1);
        kind("a<p> = " + wrap(16, "g") + g, 0, 1);
        P.faultAt("a = @@g / 1" + g, 6);
        P.faultAt("a = 1 / @@g" + g, 6);
        P.faultAt("a = (1 / @@g)" + g, 6);
        P.faultAt("a = b<@@g> b<p> = p" + g, 6);
        P.says("a = [b] b = c c = (g)" + g).so("820102").notSo("8101");
        P.says("a = [b] b = (h<3>)" + g).so("820303").notSo("820102");
    }

    private static void prelude() {
        Probe.sentence("PRELUDE, TYPES that there are always:");
        String[][] told = {{"any", "#"}, {"uint", "#0"}, {"nint", "#1"}, {"int", "x1 / x2"}, {"bstr", "#2"}, {"bytes", "#2"}, {"tstr", "#3"}, {"text", "#3"}, {"tdate", "#6.0(#3)"},
            {"time", "#6.1(#0 / #1 / #7.25 / #7.26 / #7.27)"}, {"number", "#0 / #1 / #7.25 / #7.26 / #7.27"}, {"biguint", "#6.2(#2)"}, {"bignint", "#6.3(#2)"},
            {"bigint", "#6.2(#2) / #6.3(#2)"}, {"integer", "#0 / #1 / #6.2(#2) / #6.3(#2)"}, {"unsigned", "#0 / #6.2(#2)"},
            {"decfrac", "#6.4([x1 / x2, x1 / x2 / x3])"}, {"bigfloat", "#6.5([x1 / x2, x1 / x2 / x3])"}, {"eb64url", "#6.21(#)"}, {"eb64legacy", "#6.22(#)"},
            {"eb16", "#6.23(#)"}, {"encoded-cbor", "#6.24(#2)"}, {"uri", "#6.32(#3)"}, {"b64url", "#6.33(#3)"}, {"b64legacy", "#6.34(#3)"}, {"regexp", "#6.35(#3)"},
            {"mime-message", "#6.36(#3)"}, {"cbor-any", "#6.55799(#)"}, {"float16", "#7.25"}, {"float32", "#7.26"}, {"float64", "#7.27"}, {"float16-32", "#7.25 / #7.26"},
            {"float32-64", "#7.26 / #7.27"}, {"float", "#7.25 / #7.26 / #7.27"}, {"false", "#7.20"}, {"true", "#7.21"}, {"bool", "#7.20 / #7.21"}, {"nil", "#7.22"},
            {"null", "#7.22"}, {"undefined", "#7.23"}};
        String held = " x1 = #0 x2 = #1 x3 = #6.2(#2) / #6.3(#2)";
        String[] inner = {"00", "20", "40", "60", "80", "a0", "f4", "f5", "f6", "f7", "f90000", "fa00000000", "fb0000000000000000", "820000", "822020", "8200c240", "8220c340", "82c24000",
            "83000000", "820060"};
        String[] tags = {"", "c0", "c1", "c2", "c3", "c4", "c5", "c6", "d4", "d5", "d6", "d7", "d818", "d819", "d81f", "d820", "d821", "d822", "d823", "d824", "d825", "d9d9f6", "d9d9f7", "d9d9f8"};
        for (String[] row : told) {
            P.rules("a = " + row[0], 1);
            P.says("a = [*(" + row[0] + " / 0)] b = [*(" + row[1] + " / 0)]" + held);
            for (String tag : tags) {
                for (String hex : inner) {
                    P.item("81" + tag + hex);
                    Probe.due(tag + hex + " as " + row[0] + " and as " + row[1], P.judge.judge(0, 0), P.judge.judge(1, 0));
                }
            }
        }
        P.faultAt("a = @@anyx", 4);
        P.faultAt("a = @@an", 4);
        P.faultAt("a = @@float16-33", 4);
        P.faultAt("a = @@Int", 4);
    }

    private static void order() {
        Probe.sentence("FAULTS behind the form, the first in the order of the text (each at its token; at one token the lesser number)");
        P.faultAt("a = @@x b = 1 b = 1", 4);
        P.faultAt("b = 1 @@b = 1 a = x", 2);
        P.faultAt("a = @@1.5 b = 1 b = 1", 7);
        P.faultAt("a = 1 @@.no 1.5", 8);
        P.faultAt("a = @@1.5 .no 1", 7);
        P.faultAt("a = [@@g / 1, x] g = (1, 2)", 6);
        P.faultAt("a = [@@x, g / 1] g = (1, 2)", 4);
        P.faultAt("a = [@@int<1>, x]", 5);
        P.faultAt("a<p, @@p> = x", 2);
        P.faultAt("a = @@x " + rows(24), 4);
        P.faultAt(rows(24) + "@@a = x", 3);
        // The form's FAULT is ahead of all others.
        P.faultAt("a = 1 a = x .no 1.5 @@)", 1);
    }

    private static void sameToken() {
        Probe.sentence("(each at its token; at one token the lesser number)");
        P.faultAt(rows(24) + "@@int = 1", 2);
        P.faultAt("a<p1, p2, p3, p4, p5, p6, p7, p8, @@p1> = 1", 2);
        P.faultAt("a = @@x<1>", 4);
        P.faultAt("a = ~@@x", 4);
        P.faultAt("a = &@@x", 4);
        P.faultAt("a = @@x .. 5", 4);
        P.faultAt("a = 5 .lt @@x", 4);
        P.faultAt("a = @@g<1> / 1 g = (1, 2)", 5);
        P.faultAt("a = @@b<1> .. 5 b = 1", 5);
        P.faultAt("a = @@g .. 5 g = (1, 2)", 6);
        P.faultAt("a = 5 .. @@g g = (1, 2)", 6);
        P.faultAt("a = 5 .eq @@g g = (1, 2)", 6);
        P.faultAt("a = @@1.5 .. 2", 7);
        P.faultAt("a = 1 .. @@2.5", 7);
        P.faultAt("a = 1 .lt @@2.5", 7);
        P.faultAt("a = 1 .eq @@2.5", 7);
        P.faultAt("a = &@@b<1> b = 1", 5);
        P.faultAt("a = ~@@b<1> b = 1", 5);
    }

    private static void toldTwice() {
        Probe.sentence("2 a NAME that has a RULE, by =");
        P.faultAt("a = 1 @@a = 1", 2);
        P.rules("a /= 1 a = 1", 1);
        P.rules("a = 1 a /= 1", 1);
        P.rules("a = 1 A = 1 aa = 1", 3);
        P.faultAt("a<p> = 1 @@a<p> = 1", 2);
        P.faultAt("a = 1 b = 1 @@a = 1", 2);
        P.faultAt("a = 1 @@a = 1 a = 1", 2);
    }

    private static void ofThePrelude() {
        Probe.sentence("of the PRELUDE");
        String names = "any uint nint int bstr bytes tstr text tdate time number biguint bignint bigint integer unsigned decfrac bigfloat eb64url eb64legacy eb16 encoded-cbor uri b64url"
            + " b64legacy regexp mime-message cbor-any float16 float32 float64 float16-32 float32-64 float false true bool nil null undefined";
        for (String name : names.split(" ")) {
            P.faultAt("a = 1 @@" + name + " = 1", 2);
            P.faultAt("a = 1 @@" + name + " /= 1", 2);
            P.faultAt("a = 1 @@" + name + " //= 1", 2);
            P.faultAt("a = 1 @@" + name + "<p> = 1", 2);
            P.rules("a = 1 " + name + "1 = 1", 2);
            // As a parameter, and as a key, it may stand.
            P.rules("a<" + name + "> = {" + name + ": 1}", 1);
        }
    }

    private static void otherKind() {
        Probe.sentence("one that is a TYPE where the first one of that NAME is a GROUP, or the other way round");
        P.faultAt("a = 1 @@a //= 1", 2);
        P.faultAt("a /= 1 @@a //= 1", 2);
        P.faultAt("a //= 1 @@a /= 1", 2);
        P.faultAt("a //= 1 @@a = 1", 2);
        P.faultAt("a = (1, 2) @@a /= 1", 2);
        P.faultAt("a /= 1 @@a = (1, 2)", 2);
        P.faultAt("a /= 1 @@a = x: 1", 2);
        P.rules("a //= 1 a = (1, 2) a //= x: 1", 1);
        P.rules("a //= 1 a = g g = (1, 2)", 2);
        P.rules("a = g a /= g a //= 1 g = (1, 2)", 2);
        P.faultAt("a = g @@a /= 1 g = (1, 2)", 2);
        P.faultAt("a = 1 @@a /= g g = (1, 2)", 2);
        P.faultAt("a /= 1 a /= 2 @@a //= 3 a //= 4", 2);
        P.faultAt("a //= 1 @@a /= $x", 2);
        P.rules("a //= 1 a /= $$x", 1);
    }

    private static void otherParameters() {
        Probe.sentence("other parameters than before (at the rule's NAME)");
        P.rules("a<p> = 1 a<p> /= 2", 1);
        P.rules("a<p, q> = 1 a<p, q> /= 2", 1);
        P.faultAt("a<p> = 1 @@a /= 2", 2);
        P.faultAt("a = 1 @@a<p> /= 2", 2);
        P.faultAt("a<p> = 1 @@a<q> /= 2", 2);
        P.faultAt("a<p> = 1 @@a<p, q> /= 2", 2);
        P.faultAt("a<p, q> = 1 @@a<p> /= 2", 2);
        P.faultAt("a<p, q> = 1 @@a<q, p> /= 2", 2);
        P.faultAt("a<p, q> = 1 @@a<p, r> /= 2", 2);
        P.faultAt("a<p> = 1 @@a<pp> /= 2", 2);
        P.faultAt("a<p> = 1 @@a<P> /= 2", 2);
        P.faultAt("a<p> = 1 a<p> /= 2 @@a<q> /= q", 2);
    }

    private static void parameterTwice() {
        Probe.sentence("twice a parameter.");
        P.rules("a<p, q> = 1", 1);
        P.faultAt("a<p, @@p> = 1", 2);
        P.faultAt("a<p, q, @@p> = 1", 2);
        P.faultAt("a<p, @@p, p> = 1", 2);
        P.faultAt("a<p, q, @@q, p> = 1", 2);
        P.rules("a<p, P> = 1 b<p> = 1", 2);
        P.rules("a<a> = a", 1);
    }

    private static void tooManyRules() {
        Probe.sentence("3 the 25th RULE (at its NAME), the 9th parameter.");
        P.rules(rows(24), 24);
        P.faultAt(rows(24) + "@@x = 1", 3);
        P.faultAt(rows(24) + "@@x = 1 y = 1", 3);
        P.faultAt(rows(24) + "r1 /= 1 @@x<p> = 1", 3);
        P.faultAt(rows(24) + "@@x //= 1", 3);
        P.rules("a<p1, p2, p3, p4, p5, p6, p7> = p7", 1);
        P.rules("a<p1, p2, p3, p4, p5, p6, p7, p8> = p8", 1);
        P.faultAt("a<p1, p2, p3, p4, p5, p6, p7, p8, @@p9> = p9", 3);
        P.faultAt("a<p1, p2, p3, p4, p5, p6, p7, p8, @@p9, p10> = x", 3);
        P.says("a = b<0, 1, 2, 3, 4, 5, 6, 7> b<p1, p2, p3, p4, p5, p6, p7, p8> = p8").so("07").notSo("06", "00");
    }

    private static void unknownNames() {
        Probe.sentence("4 a NAME that is used and has no RULE, nor is a parameter, nor begins with $ (such ones without RULE are never so: a TYPE, with $$ a GROUP).");
        P.rules("a = b b = 1", 2);
        P.faultAt("a = @@b", 4);
        P.faultAt("a = @@b B = 1", 4);
        P.rules("a<p> = p", 1);
        P.faultAt("a<p> = p b = @@p", 4);
        P.faultAt("a<p> = @@q", 4);
        P.faultAt("a<p> = b<p> b<q> = @@p", 4);
        P.rules("a = {b: 1}", 1);
        P.faultAt("a = {@@b => 1}", 4);
        P.faultAt("a = {b: @@b}", 4);
        P.faultAt("a = ~@@b", 4);
        P.faultAt("a = &@@b", 4);
        P.faultAt("a = b<@@c> b<p> = 1", 4);
        P.faultAt("a = 1 .size @@b", 4);
        P.faultAt("a<p> = @@b", 4);
        P.faultAt("a = [1, * @@b]", 4);
        P.rules("a = $b", 1);
        P.rules("a = $", 1);
        P.rules("a = [$$b]", 1);
        P.rules("a = [$$]", 1);
        P.faultAt("a = @@b$", 4);
        P.faultAt("a = @@_b", 4);
        P.fault("a = @b", 4, 4);
        P.says("a = $b").notSo("00", "6162", "f4", "80");
        P.says("a = $b / 1").so("01").notSo("00");
        P.says("a = [$b]").notSo("80", "8100");
        P.says("a = [? $b]").so("80").notSo("8100");
        P.says("a = [$$b]").notSo("80", "8100");
        P.says("a = [? $$b]").so("80").notSo("8100");
        P.says("a = {$$b}").notSo("a0", "a10000");
        P.says("a = {? $$b}").so("a0").notSo("a10000");
        P.says("a = &$$b").notSo("00");
        P.says("a = $b $b = 1").so("01").notSo("00");
        P.says("a = [$$b] $$b = (1, 2)").so("820102").notSo("80");
        P.faultAt("a = 1 / @@$$b", 6);
        P.faultAt("a = &@@$b", 6);
    }

    private static void howManyArguments() {
        Probe.sentence("5 not as many < .. > as the rule has parameters (at the NAME; a parameter, one of the PRELUDE that has no RULE in the text, one without RULE have none).");
        P.rules("a = b b = 1", 2);
        P.faultAt("a = @@b<1> b = 1", 5);
        P.rules("a = b<1> b<p> = 1", 2);
        P.faultAt("a = @@b b<p> = 1", 5);
        P.faultAt("a = @@b<1, 2> b<p> = 1", 5);
        P.rules("a = b<1, 2> b<p, q> = 1", 2);
        P.faultAt("a = @@b<1> b<p, q> = 1", 5);
        P.faultAt("a = @@b<1, 2, 3> b<p, q> = 1", 5);
        String eight = "<p1, p2, p3, p4, p5, p6, p7, p8> = 1";
        P.rules("a = b<1, 2, 3, 4, 5, 6, 7, 8> b" + eight, 2);
        P.faultAt("a = @@b<1, 2, 3, 4, 5, 6, 7> b" + eight, 5);
        P.faultAt("a = @@b<1, 2, 3, 4, 5, 6, 7, 8, 9> b" + eight, 5);
        P.rules("a<p> = p", 1);
        P.faultAt("a<p> = @@p<1>", 5);
        P.faultAt("a = @@int<1>", 5);
        P.faultAt("a = @@$x<1>", 5);
        P.faultAt("a = [@@$$x<1>]", 5);
        P.faultAt("a = ~@@b b<p> = #6(p)", 5);
        P.faultAt("a = &@@b b<p> = (p, p)", 5);
        P.faultAt("a = [@@b] b<p> = (p, p)", 5);
        P.faultAt("a = ~@@time<1>", 5);
        // A parameter comes before a RULE of the same NAME.
        P.faultAt("a<b> = @@b<1> b<p> = 1", 5);
        P.rules("a<b> = b b<p> = 1", 2);
    }

    private static void floats() {
        Probe.sentence("7 a FLOAT.");
        P.faultAt("a = @@1.5", 7);
        P.faultAt("a = @@-1e5", 7);
        P.faultAt("a = [@@0.0]", 7);
        P.faultAt("a = {@@1.5: 1}", 7);
        P.faultAt("a = b<@@1.5> b<p> = 1", 7);
        P.faultAt("a = 1 / 2 / @@1.5 / 2.5", 7);
        P.faultAt("a<p> = @@1.5", 7);
        P.rules("a = 15 / 1 .size 5 / \"1.5\" / #7.25 / float16", 1);
    }

    private static void groupsForTypes() {
        Probe.sentence("6 a GROUP where a type must be (not alone in an entry, not behind & )");
        String g = " g = (1, 2)";
        P.rules("a = [g] b = {g} c //= g d = ? g e = &(g) f = &g h = [* g] i = (g, g)" + g, 9);
        P.rules("a = [(g)] b = [((g))] c = [? (g)]" + g, 4);
        P.faultAt("a = [@@g / 1]" + g, 6);
        P.faultAt("a = [1 / @@g]" + g, 6);
        P.faultAt("a = [(@@g) / 1]" + g, 6);
        P.faultAt("a = [(@@g / 1)]" + g, 6);
        P.faultAt("a = [x: @@g]" + g, 6);
        P.faultAt("a = [x: (@@g)]" + g, 6);
        P.faultAt("a = [1 => @@g]" + g, 6);
        P.faultAt("a = {@@g => 1}" + g, 6);
        P.faultAt("a = {@@g ^ => 1}" + g, 6);
        P.faultAt("a = #6(@@g)" + g, 6);
        P.faultAt("a = b<@@g> b<p> = p" + g, 6);
        P.faultAt("a = [@@g .and 1]" + g, 6);
        P.faultAt("a = 1 .and @@g" + g, 6);
        P.faultAt("a = #2 .cbor @@g" + g, 6);
        P.faultAt("a = @@h / 1 h = g" + g, 6);
        P.faultAt("a = [x: @@$$g]", 6);
        P.rules("a = [g / 1] g = 1", 2);
        P.rules("a = {g: 1}" + g, 2);
    }

    private static void typesBehindAnd() {
        Probe.sentence("a TYPE behind & NAME");
        P.rules("a = &g g = (1, 2)", 2);
        P.rules("a = &g g //= 1", 2);
        P.rules("a = &h h = g g = (1, 2)", 3);
        P.rules("a = &g<1> g<p> = (p, p)", 2);
        P.rules("a = &$$x", 1);
        P.faultAt("a = &@@g g = 1", 6);
        P.faultAt("a = &@@g g = [1]", 6);
        P.faultAt("a = &@@int", 6);
        P.faultAt("a = &@@$x", 6);
        P.faultAt("a<p> = &@@p", 6);
        P.faultAt("a = &@@h h = g g = 1", 6);
    }

    private static void unwrapOfOther() {
        Probe.sentence("~ (told at the NAME behind it) before what is no TYPE of one choice #6 ( .. ), [ .. ] or { .. } (( ) around, NAMES not counting; a parameter, a NAME without RULE are none)");
        P.rules("a = ~b b = #6(1)", 2);
        P.rules("a = ~b b = #6.7(1)", 2);
        P.rules("a = [~b] b = [1]", 2);
        P.rules("a = [~b] b = {x: 1}", 2);
        P.rules("a = ~b b = (#6(1))", 2);
        P.rules("a = ~b b = ((c)) c = (d) d = #6(1)", 4);
        P.rules("a = [~b] b = c c = ([1])", 3);
        P.rules("a = ~b<1> b<p> = c<p> c<p> = #6(p)", 3);
        P.rules("a = ~tdate / ~time / ~biguint / ~bignint / ~decfrac / ~bigfloat / ~eb64url / ~eb64legacy / ~eb16 / ~encoded-cbor / ~uri / ~b64url / ~b64legacy / ~regexp / ~mime-message / ~cbor-any", 1);
        for (String name : "any uint nint int bstr bytes tstr text number bigint integer unsigned float16 float32 float64 float16-32 float32-64 float false true bool nil null undefined".split(" ")) P.faultAt("a = ~@@" + name, 6);
        P.faultAt("a = ~@@b b = 1", 6);
        P.faultAt("a = ~@@b b = #6(1) / 2", 6);
        P.faultAt("a = ~@@b b = 2 / #6(1)", 6);
        P.faultAt("a = ~@@b b = #6(1) b /= #6(1)", 6);
        P.faultAt("a = ~@@b b = (#6(1) / #6(1))", 6);
        P.faultAt("a = ~@@b b = c c = #6(1) / 2", 6);
        P.faultAt("a = ~@@b b = #6(1) .and #", 6);
        P.faultAt("a = ~@@b b = #", 6);
        P.faultAt("a = ~@@b b = \"x\"", 6);
        P.faultAt("a = ~@@b b = &(1)", 6);
        P.faultAt("a = ~@@b b = ~c c = #6(#6(1))", 6);
        P.faultAt("a = ~@@b b = c c = b", 6);
        P.faultAt("a = [~@@g] g = (1, 2)", 6);
        P.faultAt("a = [~@@$x]", 6);
        P.faultAt("a = [~@@$$x]", 6);
        P.faultAt("a<p> = ~@@p", 6);
        P.faultAt("a = ~@@b<#6(1)> b<p> = p", 6);
    }

    private static void unwrapElsewhere() {
        Probe.sentence("before one with [ or { elsewhere than alone as an entry's type without key.");
        for (String b : new String[] {" b = [1]", " b = {1 => 2}", " b = c c = ([1])"}) {
            P.says("a = [~b]" + b).says("a = {~b}" + b).says("a = [* ~b]" + b).says("a = [(~b)]" + b).says("a = [((~b)), 1]" + b).says("a = &(~b)" + b);
            P.says("a //= ~b" + b).says("a = ? ~b" + b).says("a = (~b, 1)" + b).says("a = [1, ~b // ~b]" + b);
            P.faultAt("a = ~@@b" + b, 6);
            P.faultAt("a = (~@@b)" + b, 6);
            P.faultAt("a /= ~@@b" + b, 6);
            P.faultAt("a = [x: ~@@b]" + b, 6);
            P.faultAt("a = [1 => ~@@b]" + b, 6);
            P.faultAt("a = [1 => (~@@b)]" + b, 6);
            P.faultAt("a = {~@@b => 1}" + b, 6);
            P.faultAt("a = [~@@b / 1]" + b, 6);
            P.faultAt("a = [1 / ~@@b]" + b, 6);
            P.faultAt("a = [~@@b .and #]" + b, 6);
            P.faultAt("a = [# .and ~@@b]" + b, 6);
            P.faultAt("a = #2 .cbor ~@@b" + b, 6);
            P.faultAt("a = #6(~@@b)" + b, 6);
            P.faultAt("a = d<~@@b> d<p> = p" + b, 6);
        }
        String tag = " b = #6(1)";
        P.says("a = ~b" + tag).says("a = [x: ~b]" + tag).says("a = {~b => 1}" + tag).says("a = [~b / 1]" + tag).says("a = #6(~b)" + tag).says("a = [~b]" + tag);
    }

    private static void controls() {
        Probe.sentence("8 a CONTROL that is none of size bits cbor cborseq within and lt le gt ge eq ne default");
        for (String name : "size bits cbor cborseq within and lt le gt ge eq ne default".split(" ")) {
            P.rules("a = # ." + name + " 1", 1);
            P.faultAt("a = # @@." + name + "x 1", 8);
            P.faultAt("a = # @@." + name.substring(1) + " 1", 8);
            P.faultAt("a = # @@." + Character.toUpperCase(name.charAt(0)) + name.substring(1) + " 1", 8);
        }
        P.faultAt("a = # @@.regexp \"x\"", 8);
        P.faultAt("a = # @@.cbor.size 1", 8);
        P.faultAt("a = # @@.no 1", 8);
        P.faultAt("a = # @@.$ 1", 8);
    }

    private static void rangeEnds() {
        Probe.sentence("a range's end that is no NUMBER written there");
        P.rules("a = 1 .. 2 / 0x1 ... 0b1 / -1 .. -2 / 5..5", 1);
        for (String other : new String[] {"b", "\"1\"", "'1'", "(1)", "[1]", "{1 => 1}", "#", "#1", "#7.1", "#6(1)", "~time", "&(1)", "$x", "int"}) {
            P.faultAt("a = @@" + other + " .. 2 b = 1", 8);
            P.faultAt("a = 1 .. @@" + other + " b = 1", 8);
            P.faultAt("a = @@" + other + " ... 2 b = 1", 8);
            P.faultAt("a = 1 ... @@" + other + " b = 1", 8);
        }
        P.faultAt("a = @@\"1\" .. \"2\"", 8);
        P.faultAt("a = [@@[1] .. 2]", 8);
        P.faultAt("a = @@1.0 .. 2", 7);
    }

    private static void comparedWith() {
        Probe.sentence("behind lt le gt ge: none; behind eq, ne: no NUMBER, TEXT, BYTES written there (a FLOAT is none for that).");
        String[] others = {"b", "(1)", "[1]", "{1 => 1}", "#", "#1", "#6(1)", "~time", "&(1)", "$x", "int"};
        for (String name : "lt le gt ge eq ne".split(" ")) {
            boolean same = name.equals("eq") || name.equals("ne");
            P.rules("a = # ." + name + " 1", 1);
            P.rules("a = # ." + name + " -0x1", 1);
            P.faultAt("a = # ." + name + " @@1.5", 7);
            for (String other : others) P.faultAt("a = # ." + name + " @@" + other + " b = 1", 8);
            for (String other : new String[] {"\"1\"", "'1'", "h'01'"}) {
                if (same) P.rules("a = # ." + name + " " + other, 1);
                else P.faultAt("a = # ." + name + " @@" + other, 8);
            }
        }
        P.rules("a = # .and b / # .size (1) / # .bits [1] / # .default # b = 1", 2);
    }

    private static void loops() {
        Probe.sentence("Behind all these: 9 a rule that leads to itself by NAMES (in < >, behind ~ and &, too) that are not in a [ ], { }, #6 or behind cbor, cborseq");
        P.faultAt("@@a = a", 9);
        P.faultAt("@@a = 1 / a", 9);
        P.faultAt("@@a = (1 / (a))", 9);
        P.faultAt("@@a = 1 a /= a", 9);
        P.faultAt("@@a = b b = a", 9);
        P.faultAt("@@a = b b = c c = 1 / a", 9);
        P.faultAt("@@a = (a, 1)", 9);
        P.faultAt("@@a = (1, (2, ? a))", 9);
        P.faultAt("@@a //= x: b b = &a", 9);
        P.faultAt("@@a //= b => 1 b = &a", 9);
        P.faultAt("@@a = &(1, a)", 9);
        P.faultAt("@@a = &(x: a)", 9);
        P.faultAt("@@a = b<a> b<p> = 1", 9);
        P.faultAt("@@a = b<a> b<p> = [p]", 9);
        P.faultAt("@@a = b<(1 / a)> b<p> = 1", 9);
        P.faultAt("@@a<p> = a<p>", 9);
        P.faultAt("@@a<p> = p / a<1>", 9);
        for (String name : "size bits within and default".split(" ")) {
            P.faultAt("@@a = # ." + name + " a", 9);
            P.faultAt("@@a = # ." + name + " (1 / a)", 9);
            P.faultAt("@@a = a ." + name + " 1", 9);
        }
        P.faultAt("@@a = a .cbor 1", 9);
        P.faultAt("@@a = (1 / a) .cborseq 1", 9);
        P.faultAt("@@a = a .lt 1", 9);
        P.faultAt("@@a = #2 .cbor 1 / a", 9);
        for (String before : new String[] {"[1]", "{1 => 1}", "#6(1)", "&(1)", "(1)", "# .cborseq 1", "b<1>"}) P.faultAt("b<p> = 1 @@a = " + before + " / a", 9);
        P.faultAt("x = a / 1 @@a = b b = a", 9);
        P.faultAt("x = 1 / a @@a = (a)", 9);
        // Behind all these: other FAULTS come first, also behind in the text.
        P.faultAt("a = a b = @@x", 4);
        P.faultAt("a = a b = 1 @@b = 1", 2);
        P.faultAt("a = a b = 1 @@.no 1", 8);
    }

    private static void noLoops() {
        Probe.sentence("that are not in a [ ], { }, #6 or behind cbor, cborseq");
        P.rules("a = [a]", 1);
        P.rules("a = [x: a, a => 1, (a, 1), b<a>] b<p> = p", 2);
        P.rules("a = {a => a}", 1);
        P.rules("a = {x: a}", 1);
        P.rules("a = #6(a)", 1);
        P.rules("a = #6.1(1 / (a))", 1);
        P.rules("a = #2 .cbor a", 1);
        P.rules("a = #2 .cbor (1 / a)", 1);
        P.rules("a = #2 .cborseq a", 1);
        P.rules("a = b<[a]> b<p> = p", 2);
        P.rules("a = 1 / b b = [a]", 2);
        P.rules("a = (1, [a])", 1);
        P.rules("a = (1, [b]) b = &a", 2);
        P.rules("a<p> = [a<p>]", 1);
        P.rules("a = b<b<1>> b<p> = p", 2);
        P.rules("a = b<1> / b<2> b<p> = p", 2);
        P.rules("a = #2 .cbor b b = 1 / a", 2);
    }

    private static void loopsOfUnwraps() {
        Probe.sentence("(~ NAME leads to what is in its #6 ( ), [ ] or { }, too)");
        P.faultAt("@@a = ~b b = #6(a)", 9);
        P.faultAt("@@a = ~b b = #6(1 / (2 / a))", 9);
        P.faultAt("@@a = ~b b = c c = (#6(a))", 9);
        P.faultAt("@@a //= ~b b = [a]", 9);
        P.faultAt("@@a //= ~b b = {a}", 9);
        P.faultAt("@@a //= ~b b = {1 => c} c = &a", 9);
        P.faultAt("@@a = ~b<1> b<p> = #6(a)", 9);
        P.faultAt("@@a = ~b<a> b<p> = #6(1)", 9);
        P.rules("a = ~b b = #6([a])", 2);
        P.rules("a = ~b b = #6(1)", 2);
        P.rules("a //= ~b b = [[&a]]", 2);
        P.rules("a = [~b] b = [a]", 2);
        P.rules("a = #6(~b) b = #6(a)", 2);
        Probe.sentence("at the NAME of the first such RULE, as it is told first");
        P.faultAt("x = 1 @@a = a", 9);
        P.faultAt("x = a @@a = a", 9);
        P.faultAt("x = b @@a = b b = a", 9);
        P.faultAt("@@a = 1 b = b a /= a", 9);
        P.faultAt("@@b /= 1 a = a b = b", 9);
        P.faultAt("x = [a] @@b = 1 / a a = b", 9);
    }

    private static void unwrapsOfThemselves() {
        Probe.sentence("also a ~ NAME that comes to itself, at its own place, so told (one that only leads to such a one is none), by what is in its #6 ( ), [ ] or { } (a = [~a]): at that NAME");
        P.faultAt("a = [~@@a]", 9);
        P.faultAt("a = {~@@a}", 9);
        P.faultAt("a = #6(~@@a)", 9);
        P.faultAt("a = #6(1 / (~@@a))", 9);
        P.faultAt("a = [1, (2, ? ~@@a)]", 9);
        P.rules("a = [[~a]]", 1);
        P.rules("a = #6([~a])", 1);
        P.rules("a = #6(#2 .cbor ~a)", 1);
        P.rules("a = [~b] b = [1]", 2);
        P.faultAt("a = [~@@b] b = [~a]", 9);
        P.faultAt("a = [x] x = [~b] b = [~@@c] c = [~b]", 9);
        // One that only leads to such a one is none.
        P.faultAt("a = [~b] b = [~@@b]", 9);
        P.faultAt("a = [~b] b = [~@@c] c = [~b]", 9);
        P.faultAt("a = #6(~b) b = #6(~@@b)", 9);
        P.rules("a = [b] b = [~a]", 2);
        P.faultAt("a = [~@@b] b = [g] g = (1, ~a)", 9);
        P.rules("a = [~b] b = [c] c = [~a]", 3);
    }

    private static void firstLoop() {
        Probe.sentence("of all these the first in the text.");
        P.faultAt("a = [~@@a] b = b", 9);
        P.faultAt("@@b = b a = [~a]", 9);
        P.faultAt("a = [~@@a] b = [~b]", 9);
        P.faultAt("a = [[~b]] b = [~@@b] c = c", 9);
        P.faultAt("x = 1 @@c = c d = d", 9);
        // The RULE is told first ahead of the ~ NAME.
        P.faultAt("@@c /= 1 a = [~a] c = c", 9);
    }

    /** So many INSTANCES, 47 at least: 1 of b, 2 of c, 4 of d, 8 of e, 16 of f, the others of g. */
    private static String instances(int n) {
        return "z=b<1> b<p>=[c<p>,c<[p]>] c<p>=[d<p>,d<[p]>] d<p>=[e<p>,e<[p]>] e<p>=[f<p>,f<[p]>] f<p>=[g<p>] g<p>=1 y=[" + Probe.times("g<1>", n - 47) + "] ";
    }

    private static void tooManyInstances() {
        Probe.sentence("10, at the text's length: the 65th INSTANCE");
        P.rules(instances(63), 8);
        P.rules(instances(64), 8);
        tooMuch(instances(65));
        P.rules(instances(63) + "i<q>=1 x=i<1>", 10);
        tooMuch(instances(64) + "i<q>=1 x=i<1>");
        tooMuch(instances(64) + "i<q>=1 x=i<1> ; and more \n ");
        P.rules("a=[" + Probe.times("b<1>", 64) + "] b<p>=p", 2);
        tooMuch("a=[" + Probe.times("b<1>", 65) + "] b<p>=p");
        Probe.sentence("INSTANCES are rules with parameters as they are used by rules without, and by INSTANCES");
        P.rules(instances(64) + "i<q>=[i<1>, g<1>, b<1>]", 9);
        tooMuch(instances(64) + "x=g<1>");
        P.rules(instances(61) + "i<q>=j<q> j<q>=1 x=i<1>", 11);
        P.rules(instances(62) + "i<q>=j<q> j<q>=1 x=i<1>", 11);
        tooMuch(instances(63) + "i<q>=j<q> j<q>=1 x=i<1>");
        P.rules(instances(63) + "i<q>=#6(1) x=~i<1>", 10);
        tooMuch(instances(64) + "i<q>=#6(1) x=~i<1>");
        P.rules(instances(63) + "i<q>=(1,2) x=&i<1>", 10);
        tooMuch(instances(64) + "i<q>=(1,2) x=&i<1>");
        P.rules(instances(62) + "i<q>=1 x=i<i<1>>", 10);
        tooMuch(instances(63) + "i<q>=1 x=i<i<1>>");
    }

    /** What makes the 63rd and 64th INSTANCE, but the 65th if two that stand in it are not the same. */
    private static void sameInstances() {
        Probe.sentence("two are the same, if the rule and its ARGUMENTS are");
        P.rules(instances(62) + "i<q>=1 j<q>=[i<q>,i<q>] x=j<1>", 11);
        tooMuch(instances(63) + "i<q>=1 j<q>=[i<q>,i<q>] x=j<1>");
        tooMuch(instances(62) + "i<q>=1 k<q>=1 j<q>=[i<q>,k<q>] x=j<1>");
        P.rules(instances(62) + "i<q,r>=1 j<q,r>=[i<q,r>,i<q,r>] x=j<1,2>", 11);
        tooMuch(instances(62) + "i<q,r>=1 j<q,r>=[i<q,r>,i<r,q>] x=j<1,2>");
        P.rules(instances(62) + "i<q,r>=1 j<q>=[i<q,q>,i<q,q>] x=j<1>", 11);
        tooMuch(instances(62) + "i<q,r>=1 j<q>=[i<q,q>,i<q,1>] x=j<1>");
        P.rules(instances(63) + "i<q>=[i<q>] x=i<1>", 10);
        tooMuch(instances(63) + "i<q>=[i<2>] x=i<1>");
        P.rules(instances(62) + "i<q>=[i<2>] x=i<1>", 10);
        Probe.sentence("an ARGUMENT that is just a parameter (without ( )) is that parameter's");
        tooMuch(instances(62) + "i<q>=1 j<q>=[i<q>,i<(q)>] x=j<1>");
        P.rules(instances(61) + "i<q>=1 j<q>=[i<q>,i<(q)>] x=j<1>", 11);
        tooMuch("i<q>=[i<(q)>] x=i<1>");
        P.rules("i<q>=[i<q>] x=i<1>", 2);
        Probe.sentence("another one is the place of the text where it stands (one like it elsewhere is another one), in the INSTANCE in which it stands, if it has parameters in it.");
        P.rules(instances(62) + "i<q>=1 x=[i<1>,i<1>]", 10);
        tooMuch(instances(63) + "i<q>=1 x=[i<1>,i<1>]");
        tooMuch(instances(63) + "i<q>=1 x=[i<int>,i<int>]");
        // j twice: what it gives i is one ARGUMENT, or with a parameter in it two.
        P.rules(instances(61) + "i<q>=1 j<q>=i<1> x=[j<2>,j<3>]", 11);
        P.rules(instances(61) + "i<q>=1 j<q>=i<[1]> x=[j<2>,j<3>]", 11);
        tooMuch(instances(61) + "i<q>=1 j<q>=i<[q]> x=[j<2>,j<3>]");
        P.rules(instances(60) + "i<q>=1 j<q>=i<[q]> x=[j<2>,j<3>]", 11);
        tooMuch(instances(61) + "i<q>=1 j<q>=i<q> x=[j<2>,j<3>]");
        tooMuch("i<q>=[i<[q]>] x=i<1>");
        P.rules("i<q>=[i<[1]>] x=i<1>", 2);
    }

    private static void tooManyEntries() {
        Probe.sentence("a group (of a [ ], { }, & or RULE) of more than 100 entries");
        for (String entry : new String[] {"1 ", "1,"}) {
            P.rules("a = [" + Probe.times(entry, 99) + "]", 1);
            P.rules("a = [" + Probe.times(entry, 100) + "]", 1);
            tooMuch("a = [" + Probe.times(entry, 101) + "]");
            P.rules("a = {" + Probe.times(entry, 100) + "}", 1);
            tooMuch("a = {" + Probe.times(entry, 101) + "}");
            P.rules("a = &(" + Probe.times(entry, 100) + ")", 1);
            tooMuch("a = &(" + Probe.times(entry, 101) + ")");
        }
        P.rules(Probe.times("a//=1 ", 100), 1);
        P.rules("a //= (" + Probe.times("1 ", 99) + ")", 1);
        tooMuch("a //= (" + Probe.times("1 ", 100) + ")");
        tooMuch("a<p> = [" + Probe.times("1 ", 101) + "]");
        tooMuch("a<p> = (" + Probe.times("1 ", 100) + ")");
        P.rules("a = [" + Probe.times("1 ", 50) + "//" + Probe.times("1 ", 50) + "]", 1);
        tooMuch("a = [" + Probe.times("1 ", 51) + "//" + Probe.times("1 ", 50) + "]");
        P.rules("a = [" + Probe.times("* 1 ", 100) + "]", 1);
        tooMuch("a = [" + Probe.times("* 1 ", 101) + "]");
        P.rules("a = [[" + Probe.times("1 ", 100) + "]" + Probe.times("1 ", 99) + "]", 1);
        tooMuch("a = [[" + Probe.times("1 ", 100) + "]" + Probe.times("1 ", 100) + "]");
        P.rules("a = 1" + Probe.times("/1", 148), 1);
        // What is in a [ ], { } or & is that group's alone.
        for (String one : new String[] {"[1]", "{1 => 1}", "&(1)", "&(1, 2, 3)", "[]", "#6([1])"}) {
            P.rules("a = [" + one + Probe.times(" 1", 99) + "]", 1);
            tooMuch("a = [" + one + Probe.times(" 1", 100) + "]");
            P.rules("a //= (" + one + Probe.times(" 1", 98) + ")", 1);
            tooMuch("a //= (" + one + Probe.times(" 1", 99) + ")");
        }
    }

    private static void countedEntries() {
        Probe.sentence("those of GROUPS that it names put in each time (an entry that is a GROUP, ( group ), or ~ NAME of an array or map counts 1 and what that has, another one 1;");
        P.rules("a = [(" + Probe.times("1 ", 49) + ")" + Probe.times("1 ", 50) + "]", 1);
        tooMuch("a = [(" + Probe.times("1 ", 50) + ")" + Probe.times("1 ", 50) + "]");
        P.rules("a = [(((" + Probe.times("1 ", 97) + "),),)]", 1);
        tooMuch("a = [(((" + Probe.times("1 ", 98) + "),),)]");
        // g has 1 and 48: 49, and each NAME 1 more.
        String g = " g = (" + Probe.times("1 ", 48) + ")";
        P.rules("a = [g g]" + g, 2);
        tooMuch("a = [g g 1]" + g);
        P.rules("a = {g g}" + g, 2);
        tooMuch("a = {g g 1}" + g);
        P.rules("a = &(g g)" + g, 2);
        tooMuch("a = &(g g 1)" + g);
        P.rules("a //= g a //= g" + g, 2);
        tooMuch("a //= g a //= g a //= 1" + g);
        P.rules("a = [* g (g)]" + g, 2);
        tooMuch("a = [* g (g) 1]" + g);
        P.rules("a = [&g &g" + Probe.times(" 1", 98) + "]" + g, 2);
        tooMuch("a = [&g &g" + Probe.times(" 1", 99) + "]" + g);
        String b = " b = [" + Probe.times("1 ", 49) + "]";
        P.rules("a = [~b ~b]" + b, 2);
        tooMuch("a = [~b ~b 1]" + b);
        P.rules("a = [b b" + Probe.times(" 1", 98) + "]" + b, 2);
        String m = " m = {" + Probe.times("1 ", 49) + "}";
        P.rules("a = {~m ~m}" + m, 2);
        tooMuch("a = {~m ~m 1}" + m);
        String t = " t = #6([" + Probe.times("1 ", 100) + "])";
        P.rules("a = [~t ~t" + Probe.times(" 1", 98) + "]" + t, 2);
        P.rules("a = [$$x" + Probe.times(" 1", 99) + "]", 1);
        tooMuch("a = [$$x" + Probe.times(" 1", 100) + "]");
        Probe.sentence("of a GROUP all that tells it; a type that is just a NAME of a GROUP as such an entry)");
        P.rules("a = [g] g //= (" + Probe.times("1 ", 48) + ") g //= (" + Probe.times("1 ", 49) + ")", 2);
        tooMuch("a = [g] g //= (" + Probe.times("1 ", 49) + ") g //= (" + Probe.times("1 ", 49) + ")");
        P.rules("a = [h] h = g g = (" + Probe.times("1 ", 97) + ")", 3);
        tooMuch("a = [h] h = g g = (" + Probe.times("1 ", 98) + ")");
        P.rules("h = g g = (" + Probe.times("1 ", 98) + ")", 2);
        tooMuch("h = g g = (" + Probe.times("1 ", 99) + ")");
        tooMuch("h /= g h /= g g = (" + Probe.times("1 ", 49) + ")");
        P.rules("h /= g h /= g g = (" + Probe.times("1 ", 48) + ")", 2);
        tooMuch("a<p> = h<p> h<p> = (p" + Probe.times(" 1", 98) + ")");
    }

    private static void longPathsOfNames() {
        Probe.sentence("a PATH of more than 16 (in rules without parameters, and in INSTANCES): of NAMES (those followed to rules, to arguments of parameters, also behind ~; those of the PRELUDE and without RULE)");
        P.rules(chain(15, "1"), 16);
        P.rules(chain(16, "1"), 17);
        tooMuch(chain(17, "1"));
        P.rules(chain(15, "int"), 16);
        tooMuch(chain(16, "int"));
        P.rules(chain(15, "$x"), 16);
        tooMuch(chain(16, "$x"));
        P.rules(chain(15, "&g g //= 1"), 17);
        tooMuch(chain(16, "&g g //= 1"));
        P.rules(chain(14, "~b b = #6(1)"), 16);
        tooMuch(chain(15, "~b b = #6(1)"));
        P.rules(chain(15, "~time"), 16);
        tooMuch(chain(16, "~time"));
        P.rules("a = " + wrap(15, "int"), 1);
        tooMuch("a = " + wrap(16, "int"));
        P.rules("a = " + wrap(15, "b") + " b = 1", 2);
        tooMuch("a = " + wrap(16, "b") + " b = 1");
        P.rules("a = " + wrap(14, "b") + " b = int", 2);
        tooMuch("a = " + wrap(15, "b") + " b = int");
        // In rules with parameters only as INSTANCES.
        P.rules("a<p> = " + wrap(16, "int"), 1);
        tooMuch("a<p> = " + wrap(15, "int") + " b = [a<1>]");
        P.rules("a<p> = " + wrap(14, "int") + " b = [a<1>]", 2);
        tooMuch("a<p> = " + wrap(15, "int") + " b = a<1>");
        P.rules("a<p> = " + wrap(14, "int") + " b = a<1>", 2);
    }

    private static void longPathsOfBrackets() {
        Probe.sentence("and of ( ) { } [ ] < > #6 ( ), each lying in the one before");
        P.rules("a = " + wrap(16, "1"), 1);
        for (String bracket : new String[] {"(1)", "{1 => 1}", "{}", "[1]", "[]", "#6(1)", "#6.1(1)", "&(1)", "&()"}) {
            P.rules(chain(15, bracket), 16);
            tooMuch(chain(16, bracket));
            P.rules("a = " + wrap(14, "b") + " b = " + bracket, 2);
            tooMuch("a = " + wrap(15, "b") + " b = " + bracket + " / 1");
            P.rules("a = " + wrap(15, bracket), 1);
        }
        for (String group : new String[] {"()", "(1, 2)", "? (1)", "(x: 1)"}) {
            P.rules(chain(15, group), 16);
            tooMuch(chain(16, group));
        }
        // Beside one another they lie in none: neither more nor less is in the way of what comes behind.
        for (String one : new String[] {"(1)", "((1))", "[1]", "{1 => 1}", "#6(1)", "&(1)", "b<1>", "# .cbor (1)", "# .cborseq 1", "(1 / (2)) .and ((3))"}) {
            P.rules("a = " + Probe.times(one + " / ", 12) + wrap(15, "int") + " b<p> = 1", 2);
            tooMuch("a = " + Probe.times(one + " / ", 12) + wrap(16, "int") + " b<p> = 1");
            P.rules("a = [" + one + ", " + wrap(15, "int") + "] b<p> = 1", 2);
        }
        for (String one : new String[] {"(1, 2)", "()", "? (1)", "((1, 2), 3)", "x: (1)", "(1) => (2)", "[(1, 2)]"}) {
            P.rules("a = [" + one + ", " + wrap(15, "int") + "]", 1);
            P.rules("a = [" + Probe.times(one + " ", 8) + wrap(15, "int") + "]", 1);
            P.rules("a = &(" + one + ", " + wrap(14, "int") + ")", 1);
            tooMuch("a = &(" + one + ", " + wrap(15, "int") + ")");
            P.rules("a //= (" + one + ", (" + wrap(13, "int") + ", 1))", 1);
            tooMuch("a //= (" + one + ", (" + wrap(14, "int") + ", 1))");
        }
        for (String one : new String[] {"(1)", "[1]", "{1 => 1}", "#6(1)", "&(1)", "b<1>", "# .cbor (1)", "# .cborseq 1", "(1 / 2) .and (3)"}) {
            P.rules(chain(13, "((" + one + " / int))") + " b<p> = 1", 15);
            tooMuch(chain(13, "(((" + one + " / int)))") + " b<p> = 1");
            P.rules(chain(12, "(" + one + ", (1, int))") + " b<p> = 1", 14);
            tooMuch(chain(14, "(" + one + ", (1, int))") + " b<p> = 1");
        }
        P.rules("a = " + wrap(14, "b, 1") + " b = (1, 2)", 2);
        tooMuch("a = " + wrap(15, "b, 1") + " b = (1, 2)");
        P.rules("a = " + wrap(15, "b, 1") + " b //= 1", 2);
        P.rules("a = " + wrap(15, "1 .size int"), 1);
        tooMuch("a = " + wrap(16, "1 .size int"));
        P.rules("a = " + wrap(15, "int .lt 1"), 1);
        tooMuch("a = " + wrap(16, "int .lt 1"));
    }

    private static void longPathsOfArguments() {
        Probe.sentence("(what stands in < > lies in these, not in their NAME;");
        P.rules("a = " + wrap(15, "b<1>") + " b<p> = 1", 2);
        tooMuch("a = " + wrap(15, "b<1>") + " b<p> = (1)");
        P.rules("a = " + wrap(14, "b<1>") + " b<p> = (1)", 2);
        P.rules("a = " + wrap(14, "b<int>") + " b<p> = 1", 2);
        tooMuch("a = " + wrap(15, "b<int>") + " b<p> = 1");
        P.rules("a = " + wrap(14, "b<(1)>") + " b<p> = 1", 2);
        tooMuch("a = " + wrap(15, "b<c>") + " b<p> = 1 c = 1");
        // b, p and what p stands for.
        P.rules("a = " + wrap(13, "b<c>") + " b<p> = p c = 1", 3);
        tooMuch("a = " + wrap(14, "b<c>") + " b<p> = p c = 1");
        P.rules("a = " + wrap(14, "b<1>") + " b<p> = p", 2);
        tooMuch("a = " + wrap(15, "b<1>") + " b<p> = p");
        P.rules("a = " + wrap(12, "b<(c)>") + " b<p> = p c = 1", 3);
        tooMuch("a = " + wrap(13, "b<(c)>") + " b<p> = p c = 1");
        P.rules("a = " + wrap(11, "b<c>") + " b<p> = d<p> d<p> = (p) c = 1", 4);
        tooMuch("a = " + wrap(12, "b<c>") + " b<p> = d<p> d<p> = (p) c = 1");
        P.rules("a = " + wrap(14, "b<[c]>") + " b<p> = 1 c = int", 3);
        // Of an ARGUMENT all that is not in a [ ], { }, #6 ( ) or behind cbor; of each parameter its own.
        P.rules("a = " + wrap(12, "b<[1] .and (int)>") + " b<p> = p", 2);
        tooMuch("a = " + wrap(13, "b<[1] .and (int)>") + " b<p> = p");
        P.rules("a = " + wrap(11, "b<1, ((int))>") + " b<p, q> = q", 2);
        tooMuch("a = " + wrap(12, "b<1, ((int))>") + " b<p, q> = q");
        P.rules("a = " + wrap(12, "b<1, ((int))>") + " b<p, q> = p", 2);
        P.rules("a = " + wrap(10, "b<1, ((int))>") + " b<p, q> = c<q> c<p> = 1", 3);
        tooMuch("a = " + wrap(11, "b<1, ((int))>") + " b<p, q> = c<q> c<p> = 1");
        P.rules("a = " + wrap(10, "b<1, ((int))>") + " b<p, q> = c<q> c<p> = p", 3);
        tooMuch("a = " + wrap(11, "b<1, ((int))>") + " b<p, q> = c<q> c<p> = p");
    }

    private static void longPathsOfUnwraps() {
        Probe.sentence("in ~ NAME lies what is in its #6 ( ), [ ] or { }, too (of a NAME of the PRELUDE nothing more: it is an end of a PATH, behind ~ too))");
        P.rules("a = " + wrap(14, "~b") + " b = #6(1)", 2);
        tooMuch("a = " + wrap(15, "~b") + " b = #6(1)");
        P.rules("a = " + wrap(13, "~b") + " b = #6((int))", 2);
        tooMuch("a = " + wrap(14, "~b") + " b = #6((int))");
        P.rules("a = " + wrap(13, "~b") + " b = c c = #6(1)", 3);
        tooMuch("a = " + wrap(14, "~b") + " b = c c = #6(1)");
        P.rules("a = " + wrap(12, "~b") + " b = c c = #6(((int)))", 3);
        tooMuch("a = " + wrap(13, "~b") + " b = c c = #6(((int)))");
        P.rules("a = " + wrap(12, "~b<int>") + " b<p> = #6((p))", 2);
        tooMuch("a = " + wrap(13, "~b<int>") + " b<p> = #6((p))");
        P.rules("a = [" + wrap(14, "~b, 1") + "] b = [c] c = 1", 3);
        tooMuch("a = [" + wrap(15, "~b, 1") + "] b = [c] c = 1");
        P.rules("a = [" + wrap(13, "~b, 1") + "] b = {1 => c} c = int", 3);
        tooMuch("a = [" + wrap(14, "~b, 1") + "] b = {1 => c} c = int");
        P.rules("a = " + wrap(15, "~decfrac"), 1);
        tooMuch("a = " + wrap(16, "~decfrac"));
        P.rules("a = " + wrap(13, "~b") + " b = time", 2);
        P.rules("a = " + wrap(14, "~b") + " b = time", 2);
        tooMuch("a = " + wrap(15, "~b") + " b = time");
    }

    private static void pathsBegunAnew() {
        Probe.sentence("inside [ ], { }, #6 ( ) and behind cbor, cborseq a PATH begins anew.");
        for (String inside : new String[] {"[s]", "{s => s}", "{x: s}", "#6(s)", "#6.1(s)", "#2 .cbor s", "#2 .cborseq s", "b<[s]>"}) {
            String tail = inside.startsWith("b") ? " b<p> = 1" : "";
            P.rules(chain(11, inside) + " s = " + wrap(15, "1") + tail, tail.isEmpty() ? 13 : 14);
            tooMuch(chain(11, inside) + " s = " + wrap(16, "1") + tail);
        }
        for (String outside : new String[] {"(s)", "1 / s", "&(s)", "b<s>", "b<(s)>", "# .and s", "# .size s", "# .default s", "s .cbor 1", "s .cborseq 1", "s .lt 1"}) {
            String tail = outside.startsWith("b") ? " b<p> = 1" : "";
            tooMuch(chain(11, outside) + " s = " + wrap(15, "1") + tail);
            P.rules(chain(11, outside) + " s = ((1))" + tail, tail.isEmpty() ? 13 : 14);
        }
        P.rules("a = " + wrap(15, "[int]"), 1);
        P.rules("a = " + Probe.times("[", 16) + "int" + Probe.times("]", 16), 1);
        P.rules("a = [" + wrap(15, "1") + "]", 1);
        P.rules("a = #2 .cbor " + wrap(15, "int"), 1);
        tooMuch("a = #2 .cbor " + wrap(16, "int"));
        P.rules("b<p> = [" + wrap(15, "p") + "] a = b<1>", 2);
        tooMuch("b<p> = [" + wrap(15, "p") + "] a = b<int>");
    }

    private static void lastFault() {
        Probe.sentence("Behind that: 10, at the text's length");
        String many = "a = [" + Probe.times("1 ", 101) + "]";
        tooMuch(many);
        tooMuch(many + " ");
        tooMuch(many + "\n ; behind it \n");
        tooMuch(many + " b = 1");
        P.faultAt(many + " @@b = b", 9);
        P.faultAt(many + " b = [~@@b]", 9);
        P.faultAt(many + " b = @@c", 4);
        P.faultAt(many + " b = 1 @@b = 1", 2);
        P.faultAt(many + " b@@", 1);
        P.says("a = 1").so("01");
        tooMuch(many);
        P.so("01").notSo("02");
    }
}
