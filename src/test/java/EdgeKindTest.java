import java.util.List;
import java.util.function.IntPredicate;

/**
 * Each kind of type at each place of a type: in choices, arrays, maps, tags, groups, behind CONTROLS and NAMES, as an
 * argument; alone and one place in another one; and each kind that can tell of a number, where .size and .bits ask for it.
 */
public final class EdgeKindTest {
    /** A type, items that are so and items that are not. */
    private record Kind(String type, String so, String notSo) {
    }

    /** A type with a hole @, with rules that it needs, and an item with a hole @ for one that is as what the type's hole is. */
    private record Place(String type, String rules, String item) {
        Place(String type, String item) {
            this(type, "", item);
        }

        Place in(Place outer) {
            return new Place(outer.type.replace("@", "(" + type + ")"), outer.rules.replace("@", "(" + type + ")") + rules, outer.item.replace("@", item));
        }

        String with(String kind) {
            return "a = " + type.replace("@", kind) + rules.replace("@", kind);
        }

        String item(String hex) {
            String whole = item.replace("@", hex);
            for (int i = whole.lastIndexOf('<'); i >= 0; i = whole.lastIndexOf('<')) {
                int end = whole.indexOf('>', i);
                whole = whole.substring(0, i) + inBytes(whole.substring(i + 1, end)) + whole.substring(end + 1);
            }
            return whole;
        }
    }

    private static final String HELP = "\nn = 7 / \"ab\" b<p> = p / [p] t = #6.9(7) g = (7, (x: \"ab\")) h<p> = (p, 8)";

    private static final Kind[] KINDS = {
        new Kind("7", "07 1807 1b0000000000000007", "08 27 6137 c107 8107"), new Kind("-3", "22 3802", "23 03 21 32"),
        new Kind("\"ab\"", "626162 7f61616162ff", "426162 6161 63616262"), new Kind("'ab'", "426162 5f41614162ff", "626162 4161"),
        new Kind("h'00 ff'", "4200ff 5f410041ffff", "41ff 6200ff"), new Kind("(2..5)", "02 05 1803", "01 06 22 6132"),
        new Kind("(-2...3)", "21 20 00 02", "03 22 f4"), new Kind("#", "00 20 40 60 80 a0 c100 f4 f93c00", ""), new Kind("any", "00 20 40 7fff 8100 a0 c100 f6", ""), new Kind("#0", "00 1bffffffffffffffff", "20 40 f4"), new Kind("#1", "20 3864", "00 60"),
        new Kind("#2", "40 5fff", "60 00"), new Kind("#3", "60 7fff", "40 80"), new Kind("#4", "80 9fff 8100", "a0 c080"),
        new Kind("#5", "a0 bfff", "80 00"), new Kind("#7", "f4 f93c00 f8ff", "00 c0f4"), new Kind("#7.20", "f4", "f5 14 f90014"),
        new Kind("#7.99", "f863", "f864 1863"), new Kind("#7.25", "f90000 f97e00", "fa00000000 f4"), new Kind("#7.27", "fb0000000000000019", "f90019 fa00000019"),
        new Kind("#6(7)", "c107 d903e807", "c108 07"), new Kind("#6.3(7)", "c307 d80307", "c407 c308 07"), new Kind("(7 / \"ab\")", "07 626162", "08 6161"),
        new Kind("n", "07 626162", "08 426162"), new Kind("b<7>", "07 8107", "08 8108 820707"), new Kind("b<(7 / nil)>", "f6 81f6 8107", "81f5 f5"),
        new Kind("~t", "07", "c907 08"), new Kind("~tdate", "60 6161", "c060 40"), new Kind("&(7, x: \"ab\")", "07 626162", "08 6161 a0"),
        new Kind("&(7 // (* 8))", "07 08", "09 8107"), new Kind("&g", "07 626162", "08 8107"), new Kind("&h<nil>", "08 f6", "07 f5"),
        new Kind("{1: 7}", "a10107 bf0107ff", "a0 a10108 a201070207 8107"), new Kind("{? x: 7, * int => nil}", "a0 a1617807 a101f6", "a1617808 a10107"),
        new Kind("[7, ? \"ab\"]", "8107 8207626162 9f07ff", "80 8108 820707"), new Kind("[* 7]", "80 8107 83070707 9f0707ff", "8108 820708"),
        new Kind("[1*2 (7, 8)]", "820708 8407080708", "80 8107 86070807080708"), new Kind("(uint .size 1)", "00 18ff 1900ff", "190100 20 4100"),
        new Kind("(bstr .size 2)", "420000 5f41004100ff", "4100 626161 02"), new Kind("(tstr .size (0 / 2))", "60 626161", "6161 420000"),
        new Kind("(uint .bits (0 / 2))", "00 01 04 05", "02 07 20"), new Kind("(bstr .bits 8)", "40 4100 420001", "4101 420002 43000001"),
        new Kind("(bstr .cbor 7)", "4107 421807", "40 4108 420707 6107"), new Kind("(bstr .cborseq [7, * 8])", "4107 43070808", "40 4108 420707"),
        new Kind("(int .within (0..7))", "00 07", "08 20"), new Kind("(any .and 7)", "07", "08 f4"), new Kind("(any .lt 7)", "06 20", "07 6106 f4"),
        new Kind("(any .le -7)", "26 27", "25 00 f4"), new Kind("(any .gt 7)", "08 190100", "07 28 f4"), new Kind("(any .ge 7)", "07 08", "06 27 f4"),
        new Kind("(any .eq \"ab\")", "626162", "426162 07"), new Kind("(any .ne 'ab')", "626162 07 4161", "426162"), new Kind("(7 .default 8)", "07", "08 09"),
        new Kind("$x", "", "00 f4 60"), new Kind("bool", "f4 f5", "f6 00"), new Kind("float32-64", "fa00000000 fb0000000000000000", "f90000 00"),
        new Kind("bigint", "c240 c34100", "c440 00"), new Kind("number", "00 20 f90000", "c240 f4"), new Kind("decfrac", "c4820001 c4822000", "c48100 820001 c4820060"),
    };

    private static final Place[] PLACES = {
        new Place("@", "@"), new Place("(@)", "@"), new Place("1000 / @", "@"), new Place("@ / 1000", "@"), new Place("y", "\ny = @", "@"),
        new Place("(1000 / @)", "@"), new Place("y", "\ny = 1000 y /= @", "@"), new Place("y", "\ny = 1000 y /= 2000 / @", "@"), new Place("y", "\ny /= @ y /= 1000", "@"), new Place("y", "\ny = z z = (@)", "@"),
        new Place("[@]", "81@"), new Place("[1000 // @]", "81@"), new Place("[@ // 1000]", "9f@ff"), new Place("[0, @]", "8200@"),
        new Place("[@, 0]", "82@00"), new Place("[* @]", "83@@@"), new Place("[1*2 @, 0]", "83@@00"), new Place("[(0, @)]", "8200@"),
        new Place("[(1000 // 0, (@))]", "8200@"), new Place("[x: @]", "81@"), new Place("[1000 / @]", "81@"), new Place("[x: 1000 / @]", "81@"), new Place("[0, x: @]", "8200@"),
        new Place("[1000 // 1 => @]", "81@"), new Place("[1 => @]", "81@"), new Place("[@ => @]", "81@"),
        new Place("[y]", "\ny = (0, @)", "8200@"), new Place("[y]", "\ny //= 1000 y //= @", "81@"), new Place("[y]", "\ny = z z = (@, 0)", "82@00"),
        new Place("[0, ~y]", "\ny = [@, 0]", "8300@00"), new Place("[~y]", "\ny = {x: @}", "81@"), new Place("{0 => @}", "a100@"),
        new Place("{x: @}", "a16178@"), new Place("{5: 5, \"x\": @}", "a26178@0505"), new Place("{@ => 0}", "a1@00"), new Place("{0: 1000 / @}", "a100@"), new Place("{1000 => 1, @ => 0}", "a21903e801@00"),
        new Place("{1000: 1 // @ => 0}", "a1@00"), new Place("{1000: 1 // @ ^ => 0}", "a1@00"), new Place("{? 1000: 1, @ ^ => 0}", "a1@00"), new Place("{? 1000 => 1, 0 => @}", "a100@"),
        new Place("{1000: 1 // 0 => @}", "a100@"), new Place("{@ ^ => 0}", "a1@00"),
        new Place("{* @ => 0}", "bf@00ff"), new Place("{(0: @)}", "a100@"), new Place("{0: 1000 // 0: @}", "a100@"), new Place("{? (0 => @)}", "a100@"),
        new Place("{y}", "\ny = (0: @, ? 1: 1)", "a100@"), new Place("{~y}", "\ny = {0: @}", "a100@"), new Place("{~y}", "\ny = [0: @]", "a100@"),
        new Place("{* (5 // @ => 0)}", "a1@00"), new Place("#6.5(@)", "c5@"), new Place("#6.5(1000 / @)", "c5@"), new Place("#6(@)", "d87b@"), new Place("~y", "\ny = #6.5(@)", "@"),
        new Place("~y", "\ny = (z) z = #6.5(1000 / @)", "@"), new Place("&(@)", "@"), new Place("&(1000, k: @)", "@"), new Place("&(1000 // (* @))", "@"),
        new Place("&y", "\ny = (1000, 0 => @)", "@"), new Place("&y", "\ny = 1000: 1000 y //= 1: @", "@"), new Place("&(y)", "\ny = (1000, @)", "@"),
        new Place("bstr .cbor @", "<@>"), new Place("bstr .cborseq [@]", "<@>"), new Place("bstr .cborseq [0, * @]", "<00@@>"),
        new Place("any .within @", "@"), new Place("any .and @", "@"), new Place("@ .within any", "@"), new Place("@ .default 5", "@"),
        new Place("@ .ne 1000", "@"), new Place("y<@>", "\ny<p> = p", "@"), new Place("y<@>", "\ny<p> = [p]", "81@"),
        new Place("y<@>", "\ny<p> = {0: p} / {p => 0}", "a100@"), new Place("y<1000, @>", "\ny<p, q> = p / q", "@"),
        new Place("y<@, 1000>", "\ny<p, q> = q / p", "@"), new Place("y<@>", "\ny<p> = z<1000, [p]> z<p, q> = p / q", "81@"),
        new Place("[y<@>]", "\ny<p> = (0, p)", "8200@"), new Place("&y<@>", "\ny<p> = (1000, p)", "@"), new Place("~y<@>", "\ny<p> = #6(p)", "@"),
        new Place("[~y<@>]", "\ny<p> = [p]", "81@"), new Place("bstr .cbor y<@>", "\ny<p> = [p]", "<81@>"), new Place("y<1000>", "\ny<p> = p / @", "@"),
    };

    /** A type that tells of numbers, and which ones. */
    private record Numbers(String type, IntPredicate are) {
    }

    private static final Numbers[] NUMBERS = {
        new Numbers("7", n -> n == 7), new Numbers("0", n -> n == 0), new Numbers("(2..5)", n -> n >= 2 && n <= 5), new Numbers("(2...5)", n -> n >= 2 && n < 5),
        new Numbers("(-2..5)", n -> n <= 5), new Numbers("(60..70)", n -> n >= 60 && n <= 70), new Numbers("(-5...0)", n -> false),
        new Numbers("#", n -> true), new Numbers("#0", n -> true), new Numbers("#1", n -> false), new Numbers("any", n -> true), new Numbers("uint", n -> true),
        new Numbers("int", n -> true), new Numbers("nint", n -> false), new Numbers("number", n -> true), new Numbers("unsigned", n -> true),
        new Numbers("tstr", n -> false), new Numbers("bool", n -> false), new Numbers("$x", n -> false), new Numbers("-7", n -> false),
        new Numbers("\"7\"", n -> false), new Numbers("'7'", n -> false), new Numbers("[7]", n -> false), new Numbers("{7: 7}", n -> false),
        new Numbers("#6(7)", n -> false), new Numbers("#7", n -> false), new Numbers("(7 / 3)", n -> n == 7 || n == 3), new Numbers("n", n -> n == 7),
        new Numbers("b<7>", n -> n == 7), new Numbers("b<(7 / 64)>", n -> n == 7 || n == 64), new Numbers("~t", n -> n == 7), new Numbers("~tdate", n -> false),
        new Numbers("&(7, x: 9)", n -> n == 7 || n == 9), new Numbers("&(7 // (* 8, 5 => 63))", n -> n == 7 || n == 8 || n == 63),
        new Numbers("&g", n -> n == 7), new Numbers("&h<3>", n -> n == 3 || n == 8), new Numbers("(uint .size 1)", n -> n < 256),
        new Numbers("(uint .size 0)", n -> n == 0), new Numbers("(uint .size (0 / 9))", n -> n == 0), new Numbers("(int .size 2)", n -> true),
        new Numbers("(tstr .size 1)", n -> false), new Numbers("(uint .bits (0 / 2))", n -> (n & ~5) == 0), new Numbers("(uint .bits (6 / 8))", n -> (n & ~320) == 0),
        new Numbers("(any .bits (1..4))", n -> (n & ~30) == 0), new Numbers("(int .within (0..7))", n -> n <= 7), new Numbers("(any .and 3)", n -> n == 3),
        new Numbers("(any .lt 3)", n -> n < 3), new Numbers("(any .le 3)", n -> n <= 3), new Numbers("(any .gt 64)", n -> n > 64), new Numbers("(any .ge 64)", n -> n >= 64),
        new Numbers("(any .gt -3)", n -> true), new Numbers("(any .lt -3)", n -> false), new Numbers("(any .eq 64)", n -> n == 64), new Numbers("(any .ne 64)", n -> n != 64),
        new Numbers("(any .eq \"a\")", n -> false), new Numbers("(any .ne \"a\")", n -> true), new Numbers("((0..5) .default 9)", n -> n <= 5),
        new Numbers("(any .cbor 1)", n -> false), new Numbers("((1..9) .within (5..20))", n -> n >= 5 && n <= 9), new Numbers("(0..18446744073709551615)", n -> true),
        new Numbers("(18446744073709551615 / 1)", n -> n == 1), new Numbers("(any .le 18446744073709551615)", n -> true),
    };

    // Where a type tells of the same numbers as that in its hole.
    private static final Place[] SAME = {
        new Place("@", "@"), new Place("(@)", "@"), new Place("(1000 / @)", "@"), new Place("(@ / -1)", "@"), new Place("y", "\ny = @", "@"), new Place("y", "\ny = 1000 y /= @", "@"),
        new Place("(@ .within any)", "@"), new Place("(any .and @)", "@"), new Place("&(1000, x: @)", "@"), new Place("&(1000 // (@))", "@"), new Place("&y", "\ny = (1000, (2: @))", "@"),
        new Place("y<@>", "\ny<p> = p", "@"), new Place("y<1000, @>", "\ny<p, q> = p / (q)", "@"), new Place("~y", "\ny = #6(@)", "@"), new Place("~y<@>", "\ny<p> = #6.1(1000 / p)", "@"),
        new Place("&y<@>", "\ny<p> = (1000, p)", "@"), new Place("(@ .ne 1000)", "@"),
    };

    public static void main(String[] args) {
        kindsAtPlaces();
        leftOfControls();
        leftOfEq();
        placesInPlaces();
        numbersAtPlaces();
        Probe.finish();
    }

    private static String inBytes(String hex) {
        int n = hex.length() / 2;
        return (n < 24 ? String.format("%02x", 0x40 + n) : n < 256 ? String.format("58%02x", n) : String.format("59%04x", n)) + hex;
    }

    private static void ask(Place place, Kind kind) {
        Probe p = new Probe();
        p.says(place.with(kind.type) + HELP);
        for (String hex : kind.so.split(" ")) {
            if (!hex.isEmpty()) p.so(place.item(hex));
        }
        for (String hex : kind.notSo.split(" ")) {
            if (!hex.isEmpty()) p.notSo(place.item(hex));
        }
    }

    private static void kindsAtPlaces() {
        Probe.sentence("4 AN ITEM IS as a type says");
        for (Place place : PLACES) {
            for (Kind kind : KINDS) {
                ask(place, kind);
                // Without its ( ), where that is no type2 only.
                boolean one = kind.type.startsWith("(") && !kind.type.contains(" / ") && !place.type.contains(" .");
                if (one) ask(place, new Kind(kind.type.substring(1, kind.type.length() - 1), kind.so, kind.notSo));
            }
        }
    }

    private static void leftOfControls() {
        Probe.sentence("t CONTROL c: an item as t, and: size: bytes or text: how many bytes is (as a number) as c");
        for (Kind kind : KINDS) {
            left(kind, ".size uint", "023");
            left(kind, ".bits uint", "02");
            left(kind, ".lt 18446744073709551615", "01");
            left(kind, ".le 18446744073709551615", "01");
            left(kind, ".gt -18446744073709551615", "01");
            left(kind, ".ge -18446744073709551615", "01");
            left(kind, ".within any", "01234567");
            left(kind, ".and #", "01234567");
            left(kind, ".ne 1000", "01234567");
            left(kind, ".default 1000", "01234567");
            left(kind, ".size $x", "");
            left(kind, ".within $x", "");
            left(kind, ".and nint", "1");
            left(kind, ".cbor $x", "");
        }
        for (String other : new String[] {"[* any]", "{* any => any}", "#6(any)", "#7", "#1", "#4", "$x", "~tdate", "&([])"}) {
            for (String control : new String[] {".size", ".bits"}) {
                String[] no = other.equals("~tdate") ? new String[] {"00", "40", "4101"} : new String[] {"00", "07", "40", "4101", "60", "6161"};
                new Probe().says("a = " + other + " " + control + " uint").notSo(no);
            }
        }
        for (String other : new String[] {"7", "\"ab\"", "'ab'", "{}", "#6(any)", "#7", "#0", "#2", "&(7)", "n", "~t", "(1..9)", "$x", "[]"}) {
            new Probe().says("a = bstr .cborseq " + other + HELP).notSo("4107", "426162", "42c107", "41f4", "4140", "41a0", "420707", "4180");
        }
        for (String other : new String[] {"#4", "any", "#", "[* any]", "&(1, x: [+ int])", "&h<[* int]>", "(1 / [7, 7] / [* 7])", "b<7>"}) {
            new Probe().says("a = bstr .cborseq " + other + HELP).so("4107").notSo("4118", "07", "8107", "41ff");
        }
        for (String other : new String[] {"'a'", "\"a\"", "[* any]", "{* any => any}", "#6(any)", "#7", "#2", "$x", "~tdate", "&('a')"}) {
            for (String control : new String[] {".lt 5", ".le 5", ".gt -5", ".ge -5"}) {
                new Probe().says("a = " + other + " " + control).notSo("00", "04", "20", "23", "4161", "6161", "80", "a0", "c100", "f4");
            }
        }
        for (String control : new String[] {".cbor", ".cborseq"}) {
            Probe p = new Probe();
            p.says("a = 'ab' " + control + " any").so("426162", "5f41614162ff").notSo("426163", "4161", "626162", "40");
            p.says("a = h'00' " + control + " #").so("4100", "5f4100ff").notSo("4101", "00");
            p.says("a = (\"ab\" / 'ab' / 7 / [7] / {} / #6(7) / f) " + control + " any f = h'07'").so("426162", "4107").notSo("626162", "07", "8107", "a0", "c107");
            for (String other : new String[] {"7", "\"ab\"", "[7]", "{}", "#6(7)", "#7", "#0", "#3", "&(7)", "$x", "~tdate"}) {
                p.says("a = " + other + " " + control + " any").notSo("4107", "426162", "4100", "07", "626162", "8107", "a0", "c107", "f4");
            }
            p.says("a = &(7, 'ab') " + control + " any").so("426162").notSo("07", "4107");
            p.says("a = &k " + control + " any k = (7, x: 'ab')").so("426162").notSo("07", "4107");
            p.says("a = ~t " + control + " any t = #6('ab')").so("426162").notSo("c1426162", "4107");
            p.says("a = f<'ab'> " + control + " any f<p> = p / h'07'").so("426162", "4107").notSo("4108", "07");
            p.says("a = #2 " + control + " any").so("426162", "4107").notSo("626162", "41ff", "07");
        }
    }

    private static void leftOfEq() {
        Probe.sentence("eq: the same as c; ne: not.");
        String[][] same = {{"7", "07", "1807"}, {"\"ab\"", "626162", "7f61616162ff"}, {"'ab'", "426162", "5f41614162ff"}};
        for (Kind kind : KINDS) {
            for (String[] one : same) {
                for (String hex : new String[] {"07", "1807", "08", "27", "626162", "7f61616162ff", "426162", "5f41614162ff", "8107", "f4", "c107"}) {
                    boolean equal = hex.equals(one[1]) || hex.equals(one[2]);
                    int as = asked(kind.type, hex);
                    Probe.due(hex + " as " + kind.type + " .eq " + one[0], asked(kind.type + " .eq " + one[0], hex), equal ? as : 0);
                    Probe.due(hex + " as " + kind.type + " .ne " + one[0], asked(kind.type + " .ne " + one[0], hex), equal ? 0 : as);
                }
            }
        }
    }

    private static int asked(String type, String hex) {
        Probe p = new Probe();
        p.grammar("a = " + type + HELP);
        p.item(hex);
        return p.judge.judge(0, 0);
    }

    /** Items that are as the type before the CONTROL are so if they are of one of these majors. */
    private static void left(Kind kind, String control, String majors) {
        Probe p = new Probe();
        p.says("a = " + kind.type + " " + control + HELP);
        for (String hex : kind.so.split(" ")) {
            if (hex.isEmpty()) continue;
            int major = Integer.parseInt(hex.substring(0, 2), 16) >> 5;
            // 2^64 - 1 is not below itself.
            boolean most = hex.equals("1bffffffffffffffff") && control.startsWith(".lt");
            p.is(hex, majors.indexOf('0' + major) >= 0 && !most ? 1 : 0);
        }
        for (String hex : kind.notSo.split(" ")) {
            if (!hex.isEmpty()) p.notSo(hex);
        }
    }

    private static void placesInPlaces() {
        Probe.sentence("NAME: as its TYPE, its parameters standing for what is told in < >.");
        List<String> some = List.of("7", "(7 / \"ab\")", "b<7>", "&h<nil>", "{? x: 7, * int => nil}", "[1*2 (7, 8)]");
        for (Place outer : PLACES) {
            for (Place inner : PLACES) {
                // Its rules get other NAMES than those around it.
                Place renamed = new Place(inner.type.replace("y", "v").replace("anv", "any"), inner.rules.replace("y", "v").replace("z", "w"), inner.item);
                for (Kind kind : KINDS) {
                    if (some.contains(kind.type)) ask(renamed.in(outer), kind);
                }
            }
        }
    }

    private static void numbersAtPlaces() {
        Probe.sentence("size: bytes or text: how many bytes is (as a number) as c; a number of major 0: it is below 256^n for an n 0 .. 8 that is as c; others never. bits: bytes, a number of major 0: for each bit that is set, its place (bit 0 the lowest of the first byte, or of the number) is as c; others never.");
        for (Place place : SAME) {
            for (Numbers numbers : NUMBERS) {
                sizes(place.with(numbers.type).substring(4), numbers);
                bits(place.with(numbers.type).substring(4), numbers);
            }
        }
    }

    /** The type, with the rules behind it, where it is asked for sizes. */
    private static void sizes(String type, Numbers numbers) {
        Probe p = new Probe();
        p.says("a = (bstr / tstr / uint) .size " + type + HELP);
        for (int n : new int[] {0, 1, 2, 3, 5, 6, 7, 8, 9, 30, 60, 63, 64, 65, 70, 71, 128, 255, 256}) {
            int want = numbers.are.test(n) ? 1 : 0;
            p.is(inBytes("00".repeat(n)), want);
            if (n < 24) p.is(String.format("%02x", 0x60 + n) + "61".repeat(n), want);
        }
        String[] least = {"00", "18ff", "190100", "1a00ffffff", "1affffffff", "1b000000ff00000000", "1b0000ffffffffffff", "1b0001000000000000", "1bffffffffffffffff"};
        for (int i = 0; i < least.length; i++) {
            boolean any = false;
            for (int n = i; n <= 8; n++) any |= numbers.are.test(n);
            p.is(least[i], any ? 1 : 0);
        }
    }

    private static void bits(String type, Numbers numbers) {
        Probe p = new Probe();
        p.says("a = (bstr / uint) .bits " + type + HELP);
        for (int n : new int[] {0, 1, 2, 3, 5, 6, 7, 8, 9, 15, 16, 60, 63}) {
            p.is(String.format("1b%016x", 1L << n), numbers.are.test(n) ? 1 : 0);
            p.is(String.format("1b%016x", 1L << n | 8), numbers.are.test(n) && numbers.are.test(3) ? 1 : 0);
        }
        for (int n : new int[] {0, 3, 7, 8, 60, 63, 64, 65, 71, 128}) {
            p.is(inBytes("00".repeat(n / 8) + String.format("%02x", 1 << n % 8)), numbers.are.test(n) ? 1 : 0);
        }
    }
}
