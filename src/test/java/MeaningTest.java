/** Promises 4, 5 and 6: what rules mean, FAULTS 2 to 10, and what rule() tells. */
public final class MeaningTest {
    private static final Probe P = new Probe();
    private static final String PRELUDE = "any uint nint int bstr bytes tstr text tdate time number biguint bignint bigint integer unsigned decfrac"
        + " bigfloat eb64url eb64legacy eb16 encoded-cbor uri b64url b64legacy regexp mime-message cbor-any float16 float32 float64 float16-32"
        + " float32-64 float false true bool nil null undefined";

    public static void main(String[] args) {
        told();
        kinds();
        kept();
        twice();
        tooMany();
        unknown();
        arguments();
        groups();
        unwraps();
        controls();
        first();
        loops();
        unwrapLoops();
        instances();
        largeGroups();
        longPaths();
        Probe.finish();
    }

    /** Rule k as NAME, how many parameters, TYPE or GROUP, how many choices. */
    private static void rule(int k, String name, int params, int group, int choices) {
        Probe.due("size of " + name, P.judge.rule(k, -1), name.length());
        for (int i = 0; i < name.length(); i++) Probe.due("byte " + i + " of " + name, P.judge.rule(k, i), name.charAt(i));
        Probe.due("behind " + name, P.judge.rule(k, name.length()), -1);
        Probe.due("parameters of " + name, P.judge.rule(k, -2), params);
        Probe.due("kind of " + name, P.judge.rule(k, -3), group);
        Probe.due("choices of " + name, P.judge.rule(k, -4), choices);
        Probe.due("nothing of " + name, P.judge.rule(k, -5), -1);
        Probe.due("nothing at all of " + name, P.judge.rule(k, Integer.MIN_VALUE), -1);
        Probe.due("nothing far of " + name, P.judge.rule(k, Integer.MAX_VALUE), -1);
    }

    private static void told() {
        P.rules("b = 4 a-1<p, q> = p / q / 3 $c /= 1 b /= 2 / 3 $c = (5 / 6)", 3);
        rule(0, "b", 0, 0, 3);
        rule(1, "a-1", 2, 0, 3);
        rule(2, "$c", 0, 0, 2);
        Probe.due("no rule 3", P.judge.rule(3, -1), -1);
        Probe.due("no rule -1", P.judge.rule(-1, -1), -1);
        Probe.due("no rule of the prelude", P.judge.rule(-40, -1), -1);
        Probe.due("no rule far", P.judge.rule(Integer.MAX_VALUE, -1), -1);
        Probe.due("no rule far below", P.judge.rule(Integer.MIN_VALUE, -1), -1);
        // Numbered as they are told, not as they are used.
        P.rules("x = z y = 1 z = 2", 3);
        rule(1, "y", 0, 0, 1);
        rule(2, "z", 0, 0, 1);
    }

    private static void kinds() {
        P.rules("a = (x: 1 // y: 2) b //= x: 1 c = d d = (e) e = a f = ? (1 // 2) g //= ((1 // 2 // 3)) h = () i = a i /= b", 9);
        rule(0, "a", 0, 1, 2);
        rule(1, "b", 0, 1, 1);
        rule(2, "c", 0, 1, 1);
        rule(3, "d", 0, 1, 1);
        rule(4, "e", 0, 1, 1);
        rule(5, "f", 0, 1, 1);
        rule(6, "g", 0, 1, 1);
        rule(7, "h", 0, 1, 1);
        rule(8, "i", 0, 1, 2);
        P.rules("a = (x: 1 // y: 2) a //= z: 3 a //= (1 // 2 // 3) b = (1) c //= 1 d //= (1) e = $$e f = $e g<p> = p h = ((int / tstr)) i //= 1 / 2", 9);
        rule(0, "a", 0, 1, 6);
        rule(1, "b", 0, 0, 1);
        rule(2, "c", 0, 1, 1);
        rule(3, "d", 0, 1, 1);
        rule(4, "e", 0, 1, 1);
        rule(5, "f", 0, 0, 1);
        rule(6, "g", 1, 0, 1);
        rule(7, "h", 0, 0, 1);
        rule(8, "i", 0, 1, 1);
        P.rules("a<p> = (p, 1) b = a<int> c<p> = a<p> $$d //= (1, 2) e = $$d", 5);
        rule(1, "b", 0, 1, 1);
        rule(2, "c", 1, 1, 1);
        rule(4, "e", 0, 1, 1);
    }

    private static void kept() {
        P.rules("old = int", 1);
        P.fault("new = ", 1, 6);
        rule(0, "old", 0, 0, 1);
        P.fault("new = other", 4, 6);
        P.fault("new = new", 9, 0);
        tooMuch("new = " + Probe.times("(", 16) + "int" + Probe.times(")", 16));
        rule(0, "old", 0, 0, 1);
        P.item("01");
        Probe.due("the rules that were there judge", P.judge.judge(0, 0), 1);
        P.rules("", 0);
        Probe.due("no rules", P.judge.rule(0, -1), -1);
        Probe.due("no rules judge", P.judge.judge(0, 0), -1);
    }

    private static void twice() {
        P.faultAt("a = 1 @@a = 1", 2);
        P.rules("a /= 1 a = 2 a /= 3", 1);
        P.faultAt("a /= 1 a = 2 a /= 3 @@a = 4", 2);
        P.faultAt("a //= 1 a = (2, 3) @@a = (4, 5)", 2);
        for (String name : PRELUDE.split(" ")) {
            P.fault(name + " = 1", 2, 0);
            P.fault(name + " /= 1", 2, 0);
            P.fault(name + " //= 1", 2, 0);
            P.rules("a = " + name, 1);
            P.rules(name + "x = 1", 1);
        }
        P.faultAt("a = 1 @@a //= 1", 2);
        P.faultAt("a //= 1 @@a /= 1", 2);
        P.faultAt("a = g @@a /= 1 g = (1, 2)", 2);
        P.faultAt("a = 1 @@a /= g g = (1, 2)", 2);
        P.rules("a /= g a = h g = (1, 2) h = g a //= (x: 1)", 3);
        P.faultAt("a<p> = p @@a /= 1", 2);
        P.faultAt("a<p> = p @@a<q> /= q", 2);
        P.faultAt("a<p, q> = p @@a<q, p> /= q", 2);
        P.faultAt("a = 1 @@a<p> /= p", 2);
        P.rules("a<p, q> = p a<p, q> /= q", 1);
        P.faultAt("a<p, @@p> = p", 2);
        P.faultAt("a<p, q, @@p, q> = p", 2);
        P.rules("a<int> = int b = a<1>", 2);
    }

    private static void tooMany() {
        StringBuilder rules = new StringBuilder();
        for (int i = 0; i < 24; i++) rules.append("r").append(i).append(" = 1 ");
        P.rules(rules.toString(), 24);
        rule(23, "r23", 0, 0, 1);
        P.rules(rules + "r3 /= 2 r23 /= 5", 24);
        P.faultAt(rules + "@@more = 1 another = 1", 3);
        P.faultAt(rules + "r3 /= 2 @@more = 1 another = nothing", 3);
        P.rules("a<p1, p2, p3, p4, p5, p6, p7, p8> = p8", 1);
        P.faultAt("a<p1, p2, p3, p4, p5, p6, p7, p8, @@p9, p10> = p8", 3);
        P.faultAt("a<p1, p2, p3, p4, p5, p6, p7, p8, @@p8> = p8", 2);
        P.faultAt(rules + "@@int = 1", 2);
    }

    private static void unknown() {
        P.faultAt("a = @@b", 4);
        P.faultAt("a = [x: 1 / @@x]", 4);
        P.faultAt("a = ~@@b", 4);
        P.faultAt("a = &@@b", 4);
        P.faultAt("a = [@@b<int>]", 4);
        P.faultAt("a<p> = p b = @@p", 4);
        P.faultAt("a<p> = p b = a<@@c>", 4);
        P.faultAt("a = @@INT", 4);
        P.rules("a = $x / $", 1);
        P.rules("a = [$$x, * $$] / &$$y", 1);
        P.rules("a = {b: 1, c ^ => 2} c = 3", 2);
    }

    private static void arguments() {
        P.faultAt("a = @@b<1> b = 1", 5);
        P.faultAt("a = @@b b<p> = p", 5);
        P.faultAt("a = @@b<1, 2> b<p> = p", 5);
        P.faultAt("a = @@b<1> b<p, q> = p", 5);
        P.faultAt("a = @@int<1>", 5);
        P.faultAt("a = ~@@time<1>", 5);
        P.faultAt("a = @@$x<1>", 5);
        P.faultAt("a = [@@$$x<1>]", 5);
        P.faultAt("a<p> = @@p<1>", 5);
        P.faultAt("a = &@@g g<p> = (p, p)", 5);
        P.faultAt("a = ~@@b b<p> = [p]", 5);
        // A NAME of the prelude that is told in the text has that RULE's parameters.
        P.faultAt("a = int<1> @@int<p> = p", 2);
        P.faultAt("a = @@int int<p> = p", 5);
    }

    private static void groups() {
        String g = " g = (1, 2)";
        P.faultAt("a = @@g / 1" + g, 6);
        P.faultAt("a = 1 / @@g" + g, 6);
        P.faultAt("a = [@@g / 1]" + g, 6);
        P.faultAt("a = [x: @@g]" + g, 6);
        P.faultAt("a = {@@g => 1}" + g, 6);
        P.faultAt("a = #6(@@g)" + g, 6);
        P.faultAt("a = 1 .and @@g" + g, 6);
        P.faultAt("a = @@g .and 1" + g, 6);
        P.faultAt("a = b<@@g> b<p> = p" + g, 6);
        P.faultAt("a = 1 / (@@g)" + g, 6);
        P.faultAt("a = #6(@@$$x)", 6);
        P.faultAt("a = ~@@g" + g, 6);
        P.rules("a = [g, * g, (g), ((g)), (g, 1)] b = g c = ((g)) d = &g e //= ? g f = &(g)" + g, 7);
        P.rules("a = [* b] b = c c = d" + " d = (1, 2)", 4);
        P.faultAt("a = &@@int", 6);
        P.faultAt("a = &@@b b = 1", 6);
        P.faultAt("a = &@@$x", 6);
        P.faultAt("a<p> = &@@p", 6);
        P.faultAt("a = b b = c c = a d = [x: 1, &@@a]", 6);
    }

    private static void unwraps() {
        P.rules("a = ~time / ~b / ~c b = #6(1) c = ((d)) d = b", 4);
        P.rules("a = [~b, * ~c, (~b)] b = [1] c = (d) d = {x: 1}", 4);
        P.rules("a = ~b<1> b<p> = #6.5(p)", 2);
        P.rules("a = ~b b = c<1> c<p> = (#6.5(p))", 3);
        String[] none = {"int", "any", "nil", "bool", "bigint", "float16", "$x", "$$x"};
        for (String name : none) P.faultAt("a = [~@@" + name + "]", 6);
        P.faultAt("a<p> = ~@@p", 6);
        P.faultAt("a<p> = p b = ~@@a<#6(1)>", 6);
        P.faultAt("a = ~@@b b = #6(1) / 2", 6);
        P.faultAt("a = ~@@b b = #6(1) b /= #6(2)", 6);
        P.faultAt("a = ~@@b b = #6(1) .and any", 6);
        P.faultAt("a = ~@@b b = ~c c = #6(#6(1))", 6);
        P.faultAt("a = ~@@b b = 5", 6);
        P.faultAt("a = ~@@b b = c c = b", 6);
        P.faultAt("a = ~@@b b = [1]", 6);
        P.faultAt("a = (~@@b) b = {x: 1}", 6);
        P.faultAt("a = [x: ~@@b] b = [1]", 6);
        P.faultAt("a = [~@@b / 1] b = [1]", 6);
        P.faultAt("a = [1 / ~@@b] b = [1]", 6);
        P.faultAt("a = {~@@b => 1} b = [1]", 6);
        P.faultAt("a = [~@@b .and any] b = [1]", 6);
        P.faultAt("a = #6(~@@b) b = [1]", 6);
        P.rules("a //= ~b b = [1]", 2);
        P.rules("a = &(~b) b = [1]", 2);
        P.rules("a = [x: ~b] b = #6(1)", 2);
    }

    private static void controls() {
        for (String name : "size bits cbor cborseq within and default".split(" ")) P.rules("a = int ." + name + " int", 1);
        for (String name : "lt le gt ge".split(" ")) {
            P.rules("a = int ." + name + " -5", 1);
            for (String no : new String[] {"int", "(5)", "\"5\"", "'5'", "[5]"}) P.faultAt("a = int ." + name + " @@" + no, 8);
            P.faultAt("a = int ." + name + " @@5.0", 7);
        }
        for (String name : "eq ne".split(" ")) {
            P.rules("a = (int ." + name + " -5) / tstr ." + name + " \"x\" / bstr ." + name + " h'00'", 1);
            for (String no : new String[] {"int", "(5)", "[5]", "#"}) P.faultAt("a = int ." + name + " @@" + no, 8);
            P.faultAt("a = int ." + name + " @@5.0", 7);
        }
        for (String no : "siz sizes Size regexp plus cborseqx Default".split(" ")) P.faultAt("a = int @@." + no + " 5", 8);
        P.rules("a = 1..2 / -5...0x10", 1);
        P.faultAt("a = @@b .. 5 b = 1", 8);
        P.faultAt("a = 1..@@b b = 1", 8);
        P.faultAt("a = @@\"a\" .. \"b\"", 8);
        P.faultAt("a = @@(1)..2", 8);
        P.faultAt("a = 1..@@(2)", 8);
        P.faultAt("a = @@1.5..2", 7);
        P.faultAt("a = 1..@@b", 4);
        P.faultAt("a = @@[1..b]..5", 8);
        P.faultAt("a = @@~time ..5", 8);
    }

    private static void first() {
        P.faultAt("a = @@x a = y", 4);
        P.faultAt("a = 1 @@a = y", 2);
        P.faultAt("a = 1 @@.foo x", 8);
        P.faultAt("a = [@@1.5, x]", 7);
        P.faultAt("a = @@x<1.5>", 4);
        P.faultAt("a = [x: @@g<1>] g = (1, 2)", 5);
        P.faultAt("a = x x@@", 1);
    }

    private static void loops() {
        P.faultAt("@@a = a", 9);
        P.faultAt("x = a @@a = b b = (1 / a)", 9);
        P.faultAt("@@a = 1 b = 2 a /= b b /= a", 9);
        P.faultAt("@@a = (x: 1, a)", 9);
        P.faultAt("@@a = &b b = (a, 1)", 9);
        P.faultAt("@@a = (b => 1) b = &a", 9);
        P.faultAt("@@a = int .and a", 9);
        P.faultAt("@@a = int .size a", 9);
        P.faultAt("b<p> = 1 @@a = b<a>", 9);
        P.faultAt("@@a = b<(1 / a)> b<p> = 1", 9);
        P.faultAt("@@a<p> = a<p>", 9);
        P.rules("a = [a] b = {x: b, b => 1} c = #6(c) d = bstr .cbor d / bstr .cborseq d e = [f] f = (1, [f])", 6);
        P.rules("a = b<[a]> b<p> = p", 2);
        P.faultAt("@@a = a .cbor 1", 9);
        // ~ NAME leads to what is in its #6 ( ), [ ] or { }, too.
        P.faultAt("@@a = ~b b = #6(a)", 9);
        P.faultAt("@@a = ~b b = c c = #6([d] / a) d = 1", 9);
        P.faultAt("@@a = (1, ~b) b = [a]", 9);
        P.rules("a = ~b b = #6([a])", 2);
    }

    private static void unwrapLoops() {
        P.faultAt("a = [~@@a]", 9);
        P.faultAt("a = {1 => 2, * ~@@a}", 9);
        P.faultAt("a = #6(~@@a)", 9);
        P.faultAt("a = #6(1 / (~@@a))", 9);
        P.faultAt("a = [~@@b] b = [~a]", 9);
        // a only leads to what comes to itself.
        P.faultAt("a = [~b] b = [~@@b]", 9);
        P.faultAt("a = [~b] b = [~@@c] c = [~b]", 9);
        P.faultAt("a = [x] @@x = (1, ~a)", 9);
        P.rules("a = [b] b = [~a]", 2);
        P.rules("a = [[~a]]", 1);
        P.faultAt("a = [~@@a] b = b", 9);
        P.faultAt("@@b = b a = [~a]", 9);
    }

    private static void instances() {
        P.rules("a = [" + Probe.times("b<1>", 64) + "] b<p> = p", 2);
        tooMuch("a = [" + Probe.times("b<1>", 65) + "] b<p> = p");
        // One ARGUMENT is passed on: always the same INSTANCE.
        P.rules("a = b<1> b<p> = [b<p>]", 2);
        P.rules("a = b<1, 2> b<p, q> = [b<q, p>]", 2);
        tooMuch("a = b<1> b<p> = [b<(p)>]");
        tooMuch("a = b<1> b<p> = [b<[p]>]");
        P.rules("a = b<1> b<p> = [b<[1]>]", 2);
        P.rules("a = b<1> b<p> = [b<int>]", 2);
        P.rules("a = b<1> b<p> = [b<[int, c<1>]>] c<p> = [p]", 3);
        // Without a rule that uses it there are none.
        P.rules("b<p> = [b<[p]>]", 1);
        tooMuch("a = b<1> b<p> = [c<p>, c<[p]>] c<p> = [d<p>, d<[p]>] d<p> = [e<p>, e<[p]>] e<p> = [f<p>, f<[p]>] "
            + "f<p> = [g<p>, g<[p]>] g<p> = p h = [" + Probe.times("g<1>", 2) + "]");
        P.rules("a = b<1> b<p> = [c<p>, c<[p]>] c<p> = [d<p>, d<[p]>] d<p> = [e<p>, e<[p]>] e<p> = [f<p>, f<[p]>] "
            + "f<p> = [g<p>, g<[p]>] g<p> = p h = g<1>", 8);
    }

    private static void largeGroups() {
        P.rules("a = [" + Probe.times("1 ", 100) + "]", 1);
        tooMuch("a = [" + Probe.times("1 ", 101) + "]");
        tooMuch("a = {" + Probe.times("1 ", 101) + "}");
        tooMuch("a = &(" + Probe.times("1 ", 101) + ")");
        P.rules("a //= (" + Probe.times("1 ", 99) + ")", 1);
        tooMuch("a //= (" + Probe.times("1 ", 100) + ")");
        tooMuch("a<p> = [" + Probe.times("1 ", 101) + "]");
        P.rules("a = [" + Probe.times("1 ", 50) + "//" + Probe.times("1 ", 50) + "]", 1);
        tooMuch("a = [" + Probe.times("1 ", 50) + "//" + Probe.times("1 ", 51) + "]");
        P.rules("a = [[" + Probe.times("1 ", 100) + "]" + Probe.times("1 ", 99) + "]", 1);
        P.rules("a = [(" + Probe.times("1 ", 50) + ")" + Probe.times("1 ", 49) + "]", 1);
        tooMuch("a = [(" + Probe.times("1 ", 50) + ")" + Probe.times("1 ", 50) + "]");
        // [g g]: each g counts 1 and what tells it: ( group ), which counts 1 and its entries.
        P.rules("a = [g g] g = (" + Probe.times("1 ", 48) + ")", 2);
        tooMuch("a = [g g] g = (" + Probe.times("1 ", 49) + ")");
        P.rules("a = [g g] g //= 1" + Probe.times(" g //= 1", 48), 2);
        tooMuch("a = [g g] g //= 1" + Probe.times(" g //= 1", 49));
        // A type that is just a NAME of a GROUP counts as an entry that is one.
        P.rules("a = [h h] h = g g = (" + Probe.times("1 ", 47) + ")", 3);
        tooMuch("a = [h h] h = g g = (" + Probe.times("1 ", 48) + ")");
        P.rules("a = [~b ~b] b = [" + Probe.times("1 ", 49) + "]", 2);
        tooMuch("a = [~b ~b] b = [" + Probe.times("1 ", 50) + "]");
        P.rules("a = [* ~b (~b)] b = c c = ({" + Probe.times("1 ", 49) + "})", 3);
        P.rules("a = [t t] t = [" + Probe.times("1 ", 100) + "]", 2);
        P.rules("a = [(g) g] g = (" + Probe.times("1 ", 48) + ")", 2);
        tooMuch("a = [(g) g] g = (" + Probe.times("1 ", 49) + ")");
    }

    private static void longPaths() {
        String end = Probe.times(")", 16);
        P.rules("a = " + Probe.times("(", 16) + "1" + end, 1);
        P.rules("a = " + Probe.times("(", 15) + "int" + end.substring(1), 1);
        tooMuch("a = " + Probe.times("(", 16) + "int" + end);
        tooMuch("a = " + Probe.times("(", 16) + "$x" + end);
        P.rules("a = " + Probe.times("(", 15) + "[int]" + end.substring(1), 1);
        P.rules("a = " + Probe.times("[", 16) + "int" + Probe.times("]", 16), 1);
        P.rules("a = " + Probe.times("(", 14) + "b" + end.substring(2) + " b = int", 2);
        tooMuch("a = " + Probe.times("(", 15) + "b" + end.substring(1) + " b = int");
        P.rules("a = " + Probe.times("(", 15) + "b" + end.substring(1) + " b = 1", 2);
        P.rules(chain(15, "int"), 16);
        tooMuch(chain(16, "int"));
        P.rules(chain(16, "1"), 17);
        tooMuch(chain(17, "1"));
        P.rules(chain(15, "[int]"), 16);
        tooMuch(chain(16, "[int]"));
        P.rules(chain(16, "1 .cbor int"), 17);
        tooMuch(chain(16, "1 .and int"));
        for (String bracket : new String[] {"{1 => 1}", "#6(1)", "&(1)", "(1)", "[1]", "{}", "[]", "&()"}) {
            P.rules(chain(15, bracket), 16);
            tooMuch(chain(16, bracket));
        }
        P.rules(chain(14, "(1, 2)"), 15);
        P.rules(chain(15, "(1, 2)"), 16);
        tooMuch(chain(16, "(1, 2)"));
        tooMuch(chain(16, "? ()"));
        // Groups, & and #6: each is in the way of what is in it.
        tooMuch("g = " + Probe.times("(", 15) + "h, 1" + end.substring(1) + " h = (int, 1)");
        P.rules("g = " + Probe.times("(", 13) + "h, 1" + end.substring(3) + " h = (int, 1)", 2);
        tooMuch("g = " + Probe.times("(", 14) + "h, 1" + end.substring(2) + " h = (int, 1)");
        tooMuch("a = " + Probe.times("(", 15) + "&(int)" + end.substring(1));
        P.rules("a = " + Probe.times("(", 14) + "&(int)" + end.substring(2), 1);
        P.rules("a = " + Probe.times("(", 15) + "#6(int)" + end.substring(1), 1);
        // < > and what parameters stand for.
        P.rules("a = " + Probe.times("(", 14) + "b<int>" + end.substring(2) + " b<p> = 1", 2);
        tooMuch("a = " + Probe.times("(", 15) + "b<int>" + end.substring(1) + " b<p> = 1");
        P.rules("a = " + Probe.times("(", 13) + "b<int>" + end.substring(3) + " b<p> = p", 2);
        tooMuch("a = " + Probe.times("(", 14) + "b<int>" + end.substring(2) + " b<p> = p");
        P.rules("b<p> = " + Probe.times("(", 16) + "p" + end, 1);
        tooMuch("b<p> = " + Probe.times("(", 16) + "p" + end + " a = b<1>");
        P.rules("b<p> = " + Probe.times("(", 14) + "p" + end.substring(2) + " a = b<1>", 2);
        tooMuch("b<p> = " + Probe.times("(", 15) + "p" + end.substring(1) + " a = b<1>");
        P.rules("b<p> = [" + Probe.times("(", 15) + "p" + end.substring(1) + "] a = b<1>", 2);
        tooMuch("b<p> = [" + Probe.times("(", 15) + "p" + end.substring(1) + "] a = b<int>");
        // In ~ NAME lies what is in its #6 ( ), too; of a NAME of the prelude nothing more.
        P.rules("a = " + Probe.times("(", 14) + "~b" + end.substring(2) + " b = #6(int)", 2);
        tooMuch("a = " + Probe.times("(", 15) + "~b" + end.substring(1) + " b = #6(int)");
        P.rules("a = " + Probe.times("(", 13) + "~b" + end.substring(3) + " b = #6((int))", 2);
        tooMuch("a = " + Probe.times("(", 14) + "~b" + end.substring(2) + " b = #6((int))");
        P.rules("a = " + Probe.times("(", 12) + "~b<int>" + end.substring(4) + " b<p> = #6((p))", 2);
        tooMuch("a = " + Probe.times("(", 13) + "~b<int>" + end.substring(3) + " b<p> = #6((p))");
        tooMuch("a = " + Probe.times("(", 13) + "~b" + end.substring(3) + " b = c c = (#6(((int))))");
        P.rules("a = " + Probe.times("(", 15) + "~time" + end.substring(1), 1);
        tooMuch("a = [" + Probe.times("(", 15) + "~b, 1" + end.substring(1) + "] b = [c] c = 1");
        P.rules("a = [" + Probe.times("(", 13) + "~b, 1" + end.substring(3) + "] b = [c] c = 1", 3);
    }

    private static void tooMuch(String rules) {
        P.fault(rules, 10, rules.length());
    }

    /** r0 = r1 .. rn = what stands at the end. */
    private static String chain(int n, String end) {
        StringBuilder rules = new StringBuilder();
        for (int i = 0; i < n; i++) rules.append('r').append(i).append(" = r").append(i + 1).append('\n');
        return rules.append('r').append(n).append(" = ").append(end).toString();
    }
}
