import java.util.ArrayList;
import java.util.List;

/**
 * What the document says of a text holds at each of its places: in a later choice, a key, an argument, behind a CONTROL,
 * in a box in another one, in a later statement. Each is asked for at all places, by a hole that is filled.
 */
public final class EdgePlaceTest {
    /**
     * A text with a hole @: how many of a PATH's NAMES and brackets are open there, whether NAMES there lead on (they are in
     * no [ ], { }, #6 or behind cbor), how many INSTANCES the text itself uses.
     */
    private record Place(String text, int steps, boolean free, int instances) {
        Place in(Place outer) {
            String both = outer.text.replace("@", text);
            return new Place(both, free ? outer.steps + steps : steps, free && outer.free, instances + outer.instances);
        }

        String filled(String hole) {
            return text.replace("@", hole) + HELP;
        }

        int at() {
            return text.indexOf('@');
        }
    }

    // Their parameters stand in boxes, so that a PATH to an argument is not longer than that in < >.
    private static final String HELP = "\nb<p> = [p] c<p, q> = {p => q} t<p> = #6.9([p]) u<p> = [1, [p]] g<p> = (1, [p])";

    private static final Place[] TYPES = {
        place("@", 0), place("1 / @", 0), place("1 / @ / 2", 0), place("(@)", 1), place("(1 / @)", 1), place("((2 / @))", 2),
        place("&(1, @ / 1)", 1), place("&(1 // @ / 1)", 1), place("&(1 / @)", 1), place("&(x: @)", 1), place("&(@ => 1)", 1),
        place("&(@ ^ => 1)", 1), place("&(1 => 1 / @)", 1), place("&((1, @ / 1))", 2), place("&(* (1 // 1: @))", 2),
        place("@ .within int", 0), place("int .and @", 0), place("int .default @", 0), place("uint .size @", 0),
        place("uint .bits @", 0), place("@ .size 1", 0), place("@ .cbor int", 0), place("@ .eq 1", 0), place("@ .lt 1", 0),
        uses("b<@>", 1, true, 1), uses("c<1, @>", 1, true, 1), uses("c<@, 1>", 1, true, 1), uses("b<(1 / @)>", 2, true, 1),
        uses("b<b<@>>", 2, true, 2), uses("b<1 .within @>", 1, true, 1), uses("~t<@>", 1, true, 1), uses("&g<@>", 1, true, 1),
        uses("1 / b<@>", 1, true, 1), uses("c<1, (2 / @)>", 2, true, 1),
        boxed("[@ / 1]", 0), boxed("[1, @ / 1]", 0), boxed("[1 // @ / 1]", 0), boxed("[* @ / 1]", 0), boxed("[1 / @]", 0),
        boxed("[x: @]", 0), boxed("[1 => 1 / @]", 0), boxed("[((1, @ / 1), 1)]", 2), boxed("[(1 // @ / 1)]", 1),
        boxed("{1 => @}", 0), boxed("{@ => 1}", 0), boxed("{@ ^ => 1}", 0), boxed("{x: @}", 0), boxed("{1: 1 / @}", 0),
        boxed("{'a': @}", 0), boxed("{1 => 1, 2 => @}", 0), boxed("{1: 1 // 2: @}", 0), boxed("{(1: 1, 2: @)}", 1),
        boxed("{? (@ => 1)}", 1), boxed("#6(@)", 0), boxed("#6.1(1 / @)", 0), boxed("bstr .cbor @", 0),
        boxed("bstr .cborseq @", 0), boxed("[[@ / 1]]", 0), boxed("{1: [{@ => 1}]}", 0), boxed("&([@ / 1])", 0),
        boxed("(1 / #6(@))", 0), boxed("1 / [1, 2: @]", 0), boxed("[bstr .cbor @]", 0),
        uses("[b<@>]", 1, false, 1), uses("[g<@>]", 1, false, 1), uses("{g<@>}", 1, false, 1), uses("[~t<@>]", 1, false, 1),
        uses("[~u<@>]", 1, false, 1), uses("b<[@ / 1]>", 0, false, 1), uses("c<1, {x: @}>", 0, false, 1),
    };

    private static final Place[] TEXTS = {
        place("a = @", 0), place("a = (1 / @)", 1), boxed("a = #6.1(@)", 0), place("a = 1\na /= @", 0), place("a /= 1 a = 2 / @", 0),
        place("a = (1, 2: @)", 1), place("a //= 1: 1\na //= 2: @", 0), place("a = * 1 => @", 0),
        uses("a<p> = @\nk = [a<1>]", 1, true, 1), uses("a<p> = p\na<p> /= 1 / @\nk = {a<1> => 1}", 1, true, 1),
    };

    public static void main(String[] args) {
        faults();
        leadsToItself();
        comesToItself();
        paths();
        pathsAnew();
        pathsOfUnwrapped();
        pathsOfInstances();
        entries();
        instances();
        instancesByArguments();
        readInInstances();
        heldAndJoined();
        Probe.finish();
    }

    private static Place place(String text, int steps) {
        return new Place(text, steps, true, 0);
    }

    private static Place boxed(String text, int steps) {
        return new Place(text, steps, false, 0);
    }

    private static Place uses(String text, int steps, boolean free, int instances) {
        return new Place(text, steps, free, instances);
    }

    /** Each type in each text. */
    private static List<Place> places() {
        List<Place> all = new ArrayList<>();
        for (Place text : TEXTS) {
            for (Place type : TYPES) all.add(type.in(text));
        }
        return all;
    }

    private static boolean isGroup(Place p) {
        return p.text.startsWith("a = (1, 2") || p.text.startsWith("a //=") || p.text.startsWith("a = *");
    }

    /** The hole filled with this is a FAULT, so many bytes behind where it begins. */
    private static void everywhere(String hole, int fault, int behind) {
        for (Place p : places()) new Probe().fault(p.filled(hole), fault, p.at() + behind);
    }

    /** The text has no FAULT. */
    private static void holds(String text) {
        Probe p = new Probe();
        Probe.due("fault of " + text, Math.min(0, p.grammar(text)), 0);
    }

    private static void faults() {
        Probe.sentence("FAULT 1, at the first byte of the first token that cannot stand there (the text's length for its end), or where none begins");
        everywhere("%", 1, 0);
        everywhere("(1 % 2)", 1, 3);
        everywhere(":", 1, 0);
        everywhere("(1 / )", 1, 5);
        Probe.sentence("4 a NAME that is used and has no RULE");
        everywhere("zz", 4, 0);
        everywhere("~zz", 4, 1);
        everywhere("&zz", 4, 1);
        Probe.sentence("5 not as many < .. > as the rule has parameters (at the NAME");
        everywhere("b", 5, 0);
        everywhere("b<1, 2>", 5, 0);
        everywhere("c<1>", 5, 0);
        everywhere("int<1>", 5, 0);
        everywhere("$x<1>", 5, 0);
        everywhere("~t", 5, 1);
        everywhere("&g<1, 2>", 5, 1);
        Probe.sentence("7 a FLOAT. 6 a GROUP where a type must be (not alone in an entry, not behind & ); a TYPE behind & NAME");
        everywhere("1.5", 7, 0);
        everywhere("(1 / -1e5)", 7, 5);
        everywhere("(g<1> / 1)", 6, 1);
        everywhere("(1 / $$x)", 6, 5);
        everywhere("&int", 6, 1);
        everywhere("&b<1>", 6, 1);
        everywhere("~int", 6, 1);
        everywhere("~b<1>", 6, 1);
        everywhere("~g<1>", 6, 1);
        Probe.sentence("8 a CONTROL that is none of size bits cbor cborseq within and lt le gt ge eq ne default; a range's end that is no NUMBER written there");
        everywhere("(1 .foo 2)", 8, 3);
        everywhere("(int ..5)", 8, 1);
        everywhere("(1...int)", 8, 5);
        everywhere("(1 .lt int)", 8, 7);
        everywhere("(1 .ge \"a\")", 8, 7);
        everywhere("(1 .eq int)", 8, 7);
        everywhere("(1 .ne (1))", 8, 7);
    }

    private static void leadsToItself() {
        Probe.sentence("9 a rule that leads to itself by NAMES (in < >, behind ~ and &, too) that are not in a [ ], { }, #6 or behind cbor, cborseq");
        for (Place p : places()) {
            String a = p.text.startsWith("a<p>") ? "a<1>" : isGroup(p) ? "&a" : "a";
            leads(p, "z", "\nz = 1 / " + a);
            leads(p, "(1 / z)", "\nz = y y = (1 / x) x = " + a);
            leads(p, "b<z>", "\nz = 1 / " + a);
            leads(p, "&z", "\nz = (1, 2 // x: " + a + ")");
            leads(p, "~z", "\nz = #6(1 / " + a + ")");
            leads(p, "~z", "\nz = y y = #6(1 / " + a + ")");
            leads(p, "~z", "\nz = t<" + a + ">");
            leads(p, "z", "\nz = ~y y = t<" + a + ">");
        }
        // What stands in < > of a rule that ~ goes through is gone to, too: of a and b a is the first.
        new Probe().faultAt("@@a = ~b b = c<a> c<p> = #6.1(p)", 9);
        new Probe().faultAt("x = 1 @@a = ~b b = c<(1 / a)> c<p> = #6.1([p])", 9);
    }

    private static void leads(Place p, String hole, String more) {
        if (p.free) new Probe().fault(p.filled(hole) + more, 9, 0);
        else holds(p.filled(hole) + more);
    }

    private static void comesToItself() {
        Probe.sentence("also a ~ NAME that comes to itself, at its own place, so told (one that only leads to such a one is none), by what is in its #6 ( ), [ ] or { } (a = [~a]): at that NAME");
        for (Place type : TYPES) {
            Place tag = type.in(place("a = #6.2(@)", 0));
            Place pair = type.in(place("a = (#6.2(1 / @))", 0));
            for (Place p : new Place[] {tag, pair}) {
                comes(p, "~a", "", 1);
                comes(p, "(1 / ~a)", "", 6);
                comes(p, "b<~z>", "\nz = a", 3);
                comes(p, "~z", "\nz = (y) y = a", 1);
            }
        }
        new Probe().faultAt("a = [1, ~@@a]", 9);
        new Probe().faultAt("a = {1: 1, ? ~@@a}", 9);
        new Probe().faultAt("a = [1 // (2, ~@@a)]", 9);
        holds("a = [1, [~a]]");
        holds("a = {1: {~a}}");
    }

    private static void comes(Place p, String hole, String more, int behind) {
        if (p.free) new Probe().fault(p.filled(hole) + more, 9, p.at() + behind);
        else holds(p.filled(hole) + more);
    }

    private static String bracketed(int n, String what) {
        return "(".repeat(n) + what + ")".repeat(n);
    }

    private static void paths() {
        Probe.sentence("a PATH of more than 16 (in rules without parameters, and in INSTANCES): of NAMES (those followed to rules, to arguments of parameters, also behind ~; those of the PRELUDE and without RULE) and of ( ) { } [ ] < > #6 ( )");
        // Ways to go on with 10 NAMES and brackets, and what they need.
        String[][] ten = {
            {"r", "\nr = " + bracketed(9, "1")}, {"r", "\nr = 1 r /= " + bracketed(9, "1")}, {"r", "\nr = y y = " + bracketed(8, "1")},
            {"&r", "\nr = (1, x: " + bracketed(8, "1") + ")"}, {"&r", "\nr //= 1 r //= " + bracketed(9, "1") + " => 1"},
            {"~r", "\nr = #6(" + bracketed(9, "1") + ")"}, {"~r", "\nr = (y) y = #6.1(2 / " + bracketed(9, "1") + ")"},
            {"r<1>", "\nr<p> = 1 / " + bracketed(9, "1")}, {"r<" + bracketed(8, "1") + ">", "\nr<p> = p"},
            {"r<2, " + bracketed(9, "1") + ">", "\nr<p, q> = p"}, {bracketed(9, "int"), ""}, {bracketed(9, "$x"), ""},
            {bracketed(9, "~tdate"), ""}, {bracketed(9, "[1]"), ""}, {bracketed(9, "{1: 1}"), ""}, {bracketed(9, "#6(1)"), ""},
            {bracketed(8, "&(1, (2))"), ""}, {bracketed(8, "&($$x, (2, 3))"), ""}, {bracketed(8, "(1 .size int)"), ""},
        };
        for (Place p : places()) {
            for (String[] way : ten) {
                int more = 6 - p.steps;
                String most = p.filled(bracketed(more, way[0])) + way[1];
                String text = p.filled(bracketed(more + 1, way[0])) + way[1];
                // 17 brackets that are open are FAULT 1 already.
                if (opensFew(most)) holds(most);
                if (opensFew(text)) new Probe().fault(text, 10, text.length());
            }
        }
    }

    private static void pathsAnew() {
        Probe.sentence("inside [ ], { }, #6 ( ) and behind cbor, cborseq a PATH begins anew.");
        String[] boxes = {"[@]", "[1 // 2: @]", "{x: @}", "{@ => 1}", "#6(@)", "#6.1(1 / @)", "(bstr .cbor @)", "(bstr .cborseq @)"};
        for (Place p : places()) {
            for (String box : boxes) {
                String rule = "\nr = " + bracketed(9, "1");
                holds(p.filled(box.replace("@", bracketed(6, "r"))) + rule);
                String text = p.filled(box.replace("@", bracketed(7, "r"))) + rule;
                if (opensFew(text)) new Probe().fault(text, 10, text.length());
            }
        }
    }

    private static void pathsOfUnwrapped() {
        Probe.sentence("in ~ NAME lies what is in its #6 ( ), [ ] or { }, too");
        String[] boxes = {"[1, @ / 1]", "[1 // 2, x: @]", "[@ / 1]", "[* int, (@ / 2)]", "{@ => 1}", "{1: 2 // 3: @}", "{1: 2, 3: 4 / @}"};
        for (String box : boxes) {
            for (int n = 5; n <= 9; n++) {
                // ~r 1, so many ( in its box, w 8; in some boxes there is one ( more.
                int steps = 1 + n + 7 + (box.contains("(") ? 1 : 0);
                String held = box.replace("@", bracketed(n, "w")) + " w = " + bracketed(6, "1");
                goesOn("x = [2, ~r] r = " + held, steps);
                goesOn("x = {? ~y} y = (z) z = " + held, steps);
            }
        }
    }

    private static boolean opensFew(String text) {
        int open = 0;
        int most = 0;
        for (char c : text.replace("=>", "").toCharArray()) {
            if ("([{<".indexOf(c) >= 0) open++;
            if (")]}>".indexOf(c) >= 0) open--;
            most = Math.max(most, open);
        }
        return most <= 16;
    }

    private static void pathsOfInstances() {
        Probe.sentence("(those followed to rules, to arguments of parameters, also behind ~");
        for (int n = 4; n <= 8; n++) {
            // e 1, its four ( 5, l 6, its p 7, (( 9, the p in them 10, so many ( in what that stands for.
            goesOn("k = e<" + bracketed(n, "1") + "> e<p> = ((((l<((p))>)))) l<p> = p", 10 + n);
            // The GROUP e 1, its four ( 5, l 6, ~h 7, the p in its #6 8, (( 10, the p in them 11, so many (.
            goesOn("k = [e<" + bracketed(n, "1") + ">] e<p> = ((((l<((p))> / 1, 1)))) l<p> = ~h<p> h<p> = #6(p)", 11 + n);
        }
    }

    /** The longest PATH of the text has so many NAMES and brackets. */
    private static void goesOn(String text, int steps) {
        if (steps <= 16) holds(text);
        else new Probe().fault(text, 10, text.length());
    }

    private static void entries() {
        Probe.sentence("a group (of a [ ], { }, & or RULE) of more than 100 entries");
        for (Place p : places()) {
            for (String box : new String[] {"[@]", "{@}", "&(@)"}) {
                holds(p.filled(box.replace("@", "1 ".repeat(100))));
                String text = p.filled(box.replace("@", "1 ".repeat(101)));
                new Probe().fault(text, 10, text.length());
            }
            String rule = "\nd = (" + "1 ".repeat(33) + ")";
            holds(p.filled("[d ~e d]") + rule + " e = [" + "1 ".repeat(29) + "]");
            String text = p.filled("{d ~e d}") + rule + " e = {" + "1 ".repeat(30) + "}";
            new Probe().fault(text, 10, text.length());
        }
    }

    /** A text that uses so many INSTANCES. */
    private static String using(int n) {
        String text = "\nm<p> = [n<[p]>, n<(p)>, n<{p => p}>] n<p> = [p] v = [";
        return text + "m<1> ".repeat(n / 4) + "n<1> ".repeat(n % 4) + "]";
    }

    private static void instances() {
        Probe.sentence("INSTANCES are rules with parameters as they are used by rules without, and by INSTANCES");
        for (Place p : places()) {
            for (String[] one : new String[][] {{"b<7>", "1"}, {"~t<7>", "1"}, {"&g<7>", "1"}, {"c<7, b<8>>", "2"}}) {
                int left = 64 - p.instances - Integer.parseInt(one[1]);
                holds(p.filled(one[0]) + using(left));
                String text = p.filled(one[0]) + using(left + 1);
                new Probe().fault(text, 10, text.length());
            }
        }
    }

    private static void instancesByArguments() {
        Probe.sentence("another one is the place of the text where it stands (one like it elsewhere is another one), in the INSTANCE in which it stands, if it has parameters in it");
        for (Place type : TYPES) {
            Place p = type.in(uses("e<p> = h<(@)> h<p> = [p] k = [e<1> e<2>]", 1, true, 0));
            // e and h twice each, and all in the argument twice if p stands there; h and that once if not.
            fill(p.filled("p"), 4 + 2 * p.instances);
            fill(p.filled("(1 / p)"), 4 + 2 * p.instances);
            fill(p.filled("[1, p]"), 4 + 2 * p.instances);
            fill(p.filled("7"), 3 + p.instances);
            fill(p.filled("[1, int]"), 3 + p.instances);
        }
    }

    /** The text uses so many INSTANCES: there is room for no more than the others up to 64. */
    private static void fill(String text, int used) {
        holds(text + using(64 - used));
        String more = text + using(65 - used);
        new Probe().fault(more, 10, more.length());
    }

    private static void readInInstances() {
        Probe.sentence("NAME: as its TYPE, its parameters standing for what is told in < >.");
        Probe size = new Probe();
        size.says("a = s<1> s<p> = uint .size p").so("00", "18ff").notSo("190100", "1a00010000");
        size.says("a = s<2> s<p> = uint .size p").so("00", "18ff", "19ffff").notSo("1a00010000");
        size.says("a = s<(3 / 0)> s<p> = uint .size p").so("00", "18ff", "19ffff", "1a00ffffff").notSo("1a01000000");
        size.says("a = s<(3 / 1)> s<p> = uint .bits p").so("00", "02", "08", "0a").notSo("01", "04", "0b", "10");
        for (String c : new String[] {"uint", "int", "any", "unsigned", "number", "#", "#0", "(0..8)", "&(1, 8)", "~tag", "1 / $x / int"}) {
            String type = c.contains(" ") ? "(" + c + ")" : c;
            new Probe().says("a = uint .size " + type + " tag = #6(uint)").so("00", "18ff", "190100", "1bffffffffffffffff").notSo("20", "f4");
        }
        for (String c : new String[] {"nint", "tstr", "nil", "bool", "float", "bstr", "$x", "#1", "~uri", "[any]", "{}", "#6(uint)"}) {
            new Probe().says("a = uint .size " + c).notSo("00", "18ff", "1bffffffffffffffff");
        }
        Probe.sentence("& of a group: as the type of one of its entries (also in groups within, in each choice; keys and OCCURS do not count).");
        Probe p = new Probe();
        p.says("a = &(w<tstr>) w<p> = (1, x: p)").so("01", "60", "6161").notSo("02", "40", "f4");
        p.says("a = &(1, w<tstr> // 2: w2<nil>) w<p> = (3, [p]) w2<p> = p").so("01", "03", "8160", "f6").notSo("02", "60", "8101");
        p.says("a = h<tstr> h<p> = &(? w<p>, w<bool>) w<p> = (1, (2: p))").so("01", "60", "f4", "f5").notSo("02", "f6", "40");
        p.says("a = h<tstr, nil> h<p, q> = &w<q> w<p> = (v<(p)>, [p]) v<p> = (x: p)").so("f6", "81f6").notSo("60", "8160");
        p.says("a = &(~w<tstr>) w<p> = [1, p]").so("01", "60").notSo("02", "8160", "820160");
        p.says("a = &k k = w<tstr> w<p> = (1, p)").so("01", "60").notSo("02", "f6");
    }

    private static void heldAndJoined() {
        Probe.sentence("t CONTROL c: an item as t, and: size: bytes or text: how many bytes is (as a number) as c");
        Probe p = new Probe();
        p.says("a = (bstr / tstr) .size 3").so("43010203", "5f4101420203ff", "5f404043010203ff", "7f6161626263ff");
        p.notSo("5f410142020340420405ff", "5f41014102ff", "5fff", "7fff", "7f61616161ff", "7f61616261616161ff");
        p.says("a = bstr .size 0").so("40", "5fff", "5f40ff", "5f4040ff").notSo("5f4100ff");
        Probe.sentence("cbor: bytes that are one WELL-FORMED item as c; cborseq: bytes that are items one behind the other, an array of these being as c");
        // A type, an item that is so, one that is not: in bytes, in bytes in these, and in bytes in those.
        held("{1: int}", "a10102", "a101f4");
        held("{* int => int, x: nil}", "a26178f60102", "a26178010102");
        held("[int, {1: [* int]}]", "8201a1018102", "8201a1018160");
        held("#6.1({? 1: 1})", "c1a0", "c1a10102");
        held("(bstr .bits 1)", "4102", "4103");
        held("(uint .bits (0 / 3))", "09", "0a");
        held("(tstr .size 2)", "626161", "6161");
        held("(int .lt 0)", "20", "00");
        held("(int .ge 24)", "1818", "17");
        held("(any .ne 1)", "02", "01");
        held("&(1, x: {})", "a0", "a10101");
    }

    private static void held(String content, String isSo, String isNotSo) {
        String type = content;
        String so = isSo;
        String notSo = isNotSo;
        Probe p = new Probe();
        for (int level = 1; level <= 3; level++) {
            p.says("a = bstr .cborseq [1, " + type + "]").so(inBytes("01" + so)).notSo(inBytes("01" + notSo), inBytes(so));
            type = "(bstr .cbor " + type + ")";
            so = inBytes(so);
            notSo = inBytes(notSo);
            p.says("a = " + type).so(so).notSo(notSo);
        }
    }

    private static String inBytes(String hex) {
        int n = hex.length() / 2;
        return (n < 24 ? String.format("%02x", 0x40 + n) : String.format("58%02x", n)) + hex;
    }
}
