/**
 * Each OCCUR before each kind of entry, in arrays and in maps, at each place of a group: how often the entry can be taken,
 * asked with as many items or pairs as can be and some more.
 */
public final class EdgeOccurTest {
    private static final int MANY = 1000000;

    /** How often an entry may be taken; with m below n it is never so. */
    private record Occur(String text, int least, int most) {
        boolean has(int times) {
            return times >= least && times <= most;
        }

        boolean canBe() {
            return least <= most;
        }
    }

    private static final Occur[] OCCURS = {
        new Occur("", 1, 1), new Occur("?", 0, 1), new Occur("*", 0, MANY), new Occur("+", 1, MANY), new Occur("0*0", 0, 0), new Occur("*0", 0, 0),
        new Occur("0*1", 0, 1), new Occur("*1", 0, 1), new Occur("1*1", 1, 1), new Occur("0*", 0, MANY), new Occur("1*", 1, MANY), new Occur("1*2", 1, 2),
        new Occur("2*2", 2, 2), new Occur("*2", 0, 2), new Occur("2*", 2, MANY), new Occur("2*3", 2, 3), new Occur("*3", 0, 3), new Occur("3*", 3, MANY),
        new Occur("3*5", 3, 5), new Occur("0x2*0b100", 2, 4), new Occur("2*1", 2, 1), new Occur("1*0", 1, 0), new Occur("5*2", 5, 2),
        new Occur("*1000", 0, 1000), new Occur("1000*", 1000, MANY), new Occur("7*18446744073709551615", 7, 1000), new Occur("1001*1000", 1000, 1000),
        new Occur("1001*999", 1000, 999),
    };

    /** An entry with rules that it needs, and in hex what it takes each time. */
    private record Entry(String text, String rules, String takes) {
        Entry(String text, String takes) {
            this(text, "", takes);
        }
    }

    /** A group with a hole @ for an entry, with rules, and in hex the item that it is for what the entry takes. */
    private record Place(String text, String rules, String before, String behind) {
    }

    // Each time they take so many items.
    private static final Entry[] ITEMS = {
        new Entry("7", "07"), new Entry("7 / 9", "07"), new Entry("9 / 7", "07"), new Entry("x: 7", "07"), new Entry("1: 7", "07"), new Entry("\"x\" ^ => 7", "07"),
        new Entry("nil => 7", "07"), new Entry("int ^ => 9 / 7", "07"), new Entry("(7)", "07"), new Entry("(7, 9)", "0709"), new Entry("(7 9 // 5)", "0709"),
        new Entry("(5 // 7)", "07"), new Entry("(x: 7)", "07"), new Entry("((7, 9))", "0709"), new Entry("(? 5, 7)", "07"), new Entry("(2*2 7)", "0707"),
        new Entry("n", "\nn = 7", "07"), new Entry("n<7>", "\nn<p> = p", "07"), new Entry("~n", "\nn = #6(7)", "07"), new Entry("&n", "\nn = (9, 7)", "07"),
        new Entry("n", "\nn = (7, 9)", "0709"), new Entry("(n)", "\nn = (7, 9)", "0709"), new Entry("n", "\nn = m m = (7, 9)", "0709"),
        new Entry("n", "\nn //= 5 n //= 7", "07"), new Entry("n<7>", "\nn<p> = (p, 9)", "0709"), new Entry("n<9>", "\nn<p> = m<7, p> m<p, q> = (p, q)", "0709"),
        new Entry("~n", "\nn = [7, 9]", "0709"), new Entry("~n", "\nn = m m = {x: 7, y: 9}", "0709"), new Entry("~n<7>", "\nn<p> = [p, p]", "0707"),
        new Entry("[7]", "8107"), new Entry("{7: 7}", "a10707"),
    };

    private static final Place[] ARRAYS = {
        new Place("[@]", "", "", ""), new Place("[(@)]", "", "", ""), new Place("[5 // @]", "", "", ""), new Place("[@ // 5]", "", "", ""),
        new Place("[0, @]", "", "00", ""), new Place("[@, 8]", "", "", "08"), new Place("[0, (@), 8]", "", "00", "08"), new Place("[5, 6 // @, ? 8]", "", "", ""),
        new Place("[z]", "\nz = (@, ? 6)", "", ""), new Place("[0, z<8>]", "\nz<r> = (@, r)", "00", "08"), new Place("[~z]", "\nz = [@]", "", ""),
        new Place("[z]", "\nz = (6, 5) z //= (@, 0)", "", "00"), new Place("[1*3 (0, (@), 8)]", "", "00", "08"),
    };

    private static final Entry[] PAIRS = {
        new Entry("int => 7", ""), new Entry("(nil / int) => 9 / 7", ""), new Entry("(int => 7)", ""),
        new Entry("(5: 9 // int => 7)", ""), new Entry("((int => 7))", ""), new Entry("n", "\nn = (int => 7)", ""), new Entry("n", "\nn = m m //= nil: 1 m //= int => 7", ""),
        new Entry("n<7>", "\nn<p> = (int => p)", ""), new Entry("n<int>", "\nn<p> = (m<p>) m<q> = (q => 7)", ""), new Entry("~n", "\nn = {int => 7}", ""),
        new Entry("~n", "\nn = (m) m = [int => 7]", ""), new Entry("~n<7>", "\nn<p> = {int => p}", ""), new Entry("(? 5: 9, int => 7)", ""),
    };

    private static final Place[] MAPS = {
        new Place("{@}", "", "", ""), new Place("{(@)}", "", "", ""), new Place("{nil: 1 // @}", "", "", ""), new Place("{@ // nil: 1}", "", "", ""),
        new Place("{x: 1, @}", "", "617801", ""), new Place("{@, x: 1}", "", "", "617801"), new Place("{(x: 1, (@)), y: 2}", "", "617801", "617902"),
        new Place("{z}", "\nz = (@, ? x: 1)", "", ""), new Place("{z<2>}", "\nz<r> = (@, y: r)", "", "617902"), new Place("{~z}", "\nz = {x: 1, @}", "", "617801"),
        new Place("{? nil => 1, @, * bstr => 1}", "", "", "4001"),
    };

    public static void main(String[] args) {
        inArrays();
        whatTakesNothing();
        inMaps();
        cutsInMaps();
        whatNeedsNoPair();
        withoutKeys();
        Probe.finish();
    }

    private static String rules(Place place, Occur occur, Entry entry) {
        String text = "a = " + place.text + place.rules + entry.rules;
        return text.replace("@", occur.text + " " + entry.text);
    }

    private static void array(Probe p, Place place, String within, int want) {
        p.is("9f" + place.before + within + place.behind + "ff", want);
    }

    private static void inArrays() {
        Probe.sentence("a choice what its entries take one behind the other, each as often as it can from there (an OCCUR: n*m from n to m times, n* any times from n on, *m up to m, * any, + from 1, ? up to 1; none: once), failing if less often than it must; nothing is taken back.");
        for (Place place : ARRAYS) {
            for (Occur occur : OCCURS) {
                for (Entry entry : ITEMS) {
                    Probe p = new Probe();
                    p.says(rules(place, occur, entry));
                    for (int n = 0; n <= 8; n++) {
                        array(p, place, entry.takes.repeat(n), occur.has(n) ? 1 : 0);
                        if (entry.takes.length() == 4 && !entry.takes.startsWith("81")) array(p, place, entry.takes.repeat(n) + "07", 0);
                    }
                }
            }
        }
    }

    private static void whatTakesNothing() {
        Probe.sentence("what takes nothing is not tried again (and counts as often as it must).");
        for (Place place : ARRAYS) {
            for (Occur occur : OCCURS) {
                for (int n = 0; n <= 6; n++) {
                    boolean upToMost = occur.canBe() && n <= occur.most;
                    boolean allAtOnce = occur.canBe() && (n == 0 || occur.most > 0);
                    boolean none = occur.canBe() && n == 0;
                    nothing(place, occur, new Entry("(? 7)", ""), n, upToMost);
                    nothing(place, occur, new Entry("n", "\nn = (? 7)", ""), n, upToMost);
                    nothing(place, occur, new Entry("~n", "\nn = [? 7]", ""), n, upToMost);
                    nothing(place, occur, new Entry("(7 // )", ""), n, upToMost);
                    nothing(place, occur, new Entry("(* 7)", ""), n, allAtOnce);
                    nothing(place, occur, new Entry("n<7>", "\nn<p> = (* p)", ""), n, allAtOnce);
                    nothing(place, occur, new Entry("(* 9)", ""), n, none);
                    nothing(place, occur, new Entry("(*0 7)", ""), n, none);
                    nothing(place, occur, new Entry("~n", "\nn = {}", ""), n, none);
                    nothing(place, occur, new Entry("n", "\nn = (// 7)", ""), n, none);
                }
            }
        }
    }

    private static void nothing(Place place, Occur occur, Entry entry, int n, boolean want) {
        Probe p = new Probe();
        p.says(rules(place, occur, entry));
        array(p, place, "07".repeat(n), want ? 1 : 0);
    }

    /** A map with so many pairs of a number and 7, some before those of the place and some behind them. */
    private static String map(Place place, int n) {
        StringBuilder hex = new StringBuilder();
        for (int i = 0; i < n; i++) {
            if (i == n / 2) hex.append(place.before).append(place.behind);
            hex.append(String.format("%02x07", 10 + i));
        }
        if (n == 0) hex.append(place.before).append(place.behind);
        return "bf" + hex + "ff";
    }

    private static int room(Place place) {
        int others = (place.before.isEmpty() ? 0 : 1) + (place.behind.isEmpty() ? 0 : 1);
        return 6 - others;
    }

    private static void inMaps() {
        Probe.sentence("each entry a number of times that its OCCUR lets, a GROUP, ( group ), ~ NAME each time by a way of its own");
        for (Place place : MAPS) {
            for (Occur occur : OCCURS) {
                for (Entry entry : PAIRS) {
                    Probe p = new Probe();
                    p.says(rules(place, occur, entry));
                    for (int n = 0; n <= room(place); n++) p.is(map(place, n), occur.has(n) ? 1 : 0);
                    p.is(map(place, 7), 0);
                }
            }
        }
    }

    private static void cutsInMaps() {
        Probe.sentence("and no pair is given to an entry behind (in the way) one with a CUT (: or ^ => ) whose key its key is as.");
        for (Place place : MAPS) {
            for (Occur occur : OCCURS) {
                for (int n = 0; n <= room(place); n++) {
                    // By an entry all are given at once; by a group one, as the next time would be behind the first one's CUT.
                    boolean once = n == 0 && occur.has(0) || n == 1 && occur.has(1);
                    pairs(place, occur, new Entry("int ^ => 7", ""), n, occur.has(n));
                    pairs(place, occur, new Entry("(10..15) ^ => 9 / 7", ""), n, occur.has(n));
                    pairs(place, occur, new Entry("(int ^ => 7)", ""), n, once);
                    pairs(place, occur, new Entry("n", "\nn = (int ^ => 7)", ""), n, once);
                    pairs(place, occur, new Entry("~n", "\nn = {int ^ => 7}", ""), n, once);
                    boolean all = occur.canBe() && (n == 0 || occur.most > 0);
                    pairs(place, occur, new Entry("(* int ^ => 7)", ""), n, all);
                    pairs(place, occur, new Entry("(? int ^ => 7)", ""), n, all && n <= 1);
                    // Whatever it takes, what comes behind in the way gets none, if it is in the way.
                    pairs(place, occur, new Entry("int ^ => 7, * int => 7", ""), n, occur.has(n));
                    pairs(place, occur, new Entry("(? int ^ => 9), * int => 7", ""), n, occur.canBe() && (n == 0 || occur.least == 0));
                }
            }
        }
    }

    private static void pairs(Place place, Occur occur, Entry entry, int n, boolean want) {
        Probe p = new Probe();
        p.says(rules(place, occur, entry));
        p.is(map(place, n), want ? 1 : 0);
    }

    private static void whatNeedsNoPair() {
        Probe.sentence("An OCCUR of at least n times of what need take no pair counts as gone through.");
        for (Place place : MAPS) {
            for (Occur occur : OCCURS) {
                for (int n = 0; n <= room(place); n++) {
                    boolean upToMost = occur.canBe() && n <= occur.most;
                    boolean allAtOnce = occur.canBe() && (n == 0 || occur.most > 0);
                    pairs(place, occur, new Entry("(? int => 7)", ""), n, upToMost);
                    pairs(place, occur, new Entry("n", "\nn = (int => 7 // )", ""), n, upToMost);
                    pairs(place, occur, new Entry("~n", "\nn = {? int => 7}", ""), n, upToMost);
                    pairs(place, occur, new Entry("(* int => 7)", ""), n, allAtOnce);
                    pairs(place, occur, new Entry("n<7>", "\nn<p> = (* int => p)", ""), n, allAtOnce);
                    pairs(place, occur, new Entry("~n", "\nn = [* int => 7]", ""), n, allAtOnce);
                    pairs(place, occur, new Entry("()", ""), n, occur.canBe() && n == 0);
                }
            }
        }
    }

    private static void withoutKeys() {
        Probe.sentence("An entry without key that is no group has no way but that of 0 times, if its OCCUR lets that.");
        for (Place place : MAPS) {
            for (Occur occur : OCCURS) {
                for (int n = 0; n <= 2; n++) {
                    boolean none = occur.has(0) && n == 0;
                    pairs(place, occur, new Entry("7", ""), n, none);
                    pairs(place, occur, new Entry("int / any", ""), n, none);
                    pairs(place, occur, new Entry("n", "\nn = any", ""), n, none);
                    pairs(place, occur, new Entry("~n", "\nn = #6(any)", ""), n, none);
                    pairs(place, occur, new Entry("&n", "\nn = (any, int)", ""), n, none);
                    pairs(place, occur, new Entry("7, * int => 7", ""), n, occur.has(0));
                }
            }
        }
    }
}
