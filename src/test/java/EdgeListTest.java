/** Sections 5 to 7 of THE TAPE, sentence by sentence: arrays, maps and their room at the edges that these name, and on both sides of them. */
public final class EdgeListTest {
    private static final Probe P = new Probe();

    public static void main(String[] args) {
        takesAll();
        firstChoice();
        oneBehindTheOther();
        occursInArrays();
        occursOfGroupsInArrays();
        failing();
        notTakenBack();
        oneItem();
        groupsInArrays();
        takesNothing();
        countsAsItMust();
        waysThroughMaps();
        occursInMaps();
        occursOfGroupsInMaps();
        eachTimeItsOwnWay();
        keysAndValues();
        wordKeys();
        givenOnce();
        cuts();
        noCuts();
        cutsTakenNoTimes();
        cutsInGroups();
        withoutKey();
        greatOccurs();
        lessThanLeast();
        manyPairs();
        needsNoPair();
        Probe.finish();
    }

    /** An array of so many ones. */
    private static String ones(int n) {
        return (n < 24 ? String.format("%02x", 0x80 + n) : String.format("98%02x", n)) + Probe.times("01", n);
    }

    /** A map of so many pairs, 0: 0, 1: 0, .. */
    private static String pairs(int n) {
        StringBuilder hex = new StringBuilder(String.format("%02x", 0xa0 + n));
        for (int i = 0; i < n; i++) hex.append(String.format("%02x00", i));
        return hex.toString();
    }

    private static void takesAll() {
        Probe.sentence("AN ARRAY is as [ group ], if the group, read from its first item on, takes all.");
        P.says("a = []").so("80", "9fff").notSo("8100", "a0", "00", "60", "40");
        P.says("a = [1]").so("8101", "9f01ff", "980101").notSo("80", "8102", "820101", "a10101", "01", "c18101");
        P.says("a = [1, 2]").so("820102").notSo("8101", "8102", "820201", "83010200", "83000102");
        P.says("a = [* 1]").so("80", "8101", ones(100)).notSo("8102", "820102", "820201");
        P.says("a = [1, [2, 3], 4]").so("830182020304").notSo("8401020304", "830182020404", "83018302030304", "8201820203");
        P.says("a = [100*100 1]").so(ones(100)).notSo(ones(99), "80");
        P.says("a = [101*101 1]").notSo(ones(100), ones(99));
    }

    private static void firstChoice() {
        Probe.sentence("A group takes what its first choice that takes takes;");
        P.says("a = [1 // 2]").so("8101", "8102").notSo("80", "820102", "8103");
        P.says("a = [1 // 1, 2]").so("8101").notSo("820102");
        P.says("a = [1, 2 // 1]").so("820102", "8101").notSo("8102");
        P.says("a = [// 1]").so("80").notSo("8101");
        P.says("a = [1 //]").so("8101", "80").notSo("8102");
        P.says("a = [(1 // 1, 2), 3]").so("820103").notSo("83010203");
        P.says("a = [(1, 2 // 1), 3]").so("820103", "83010203").notSo("820203");
        P.says("a = [1 // 2 // 3 // 4, 5]").so("8103", "820405").notSo("8104", "8105");
    }

    private static void oneBehindTheOther() {
        Probe.sentence("a choice what its entries take one behind the other, each as often as it can from there");
        P.says("a = [* 1, * 2, * 3]").so("80", "8101", "8102", "8103", "83010203", "86010102020303").notSo("820201", "820301", "820302", "83010301");
        P.says("a = [* 1, 1]").notSo("80", "8101", "820101");
        P.says("a = [*2 1, 1]").so("83010101").notSo("820101", "8101", "8401010101");
        P.says("a = [? 1, 1]").so("820101").notSo("8101", "83010101");
        P.says("a = [1*3 1, 2]").so("820102", "8401010102").notSo("8102", "850101010102", "83010101");
    }

    /** Each kind of OCCUR, told how often at least and at most. */
    private static String occur(int n, int m) {
        return n + "*" + m;
    }

    private static void occursInArrays() {
        Probe.sentence("(an OCCUR: n*m from n to m times, n* any times from n on, *m up to m, * any, + from 1, ? up to 1; none: once)");
        for (int n = 0; n <= 4; n++) {
            for (int m = n; m <= 4; m++) {
                P.says("a = [" + occur(n, m) + " 1]");
                for (int k = 0; k <= 6; k++) P.is(ones(k), k >= n && k <= m ? 1 : 0);
            }
            P.says("a = [" + n + "* 1]");
            for (int k = 0; k <= 6; k++) P.is(ones(k), k >= n ? 1 : 0);
            P.is(ones(100), 1);
            P.says("a = [*" + n + " 1]");
            for (int k = 0; k <= 6; k++) P.is(ones(k), k <= n ? 1 : 0);
        }
        P.says("a = [* 1]").so(ones(0), ones(1), ones(2), ones(100));
        P.says("a = [+ 1]").so(ones(1), ones(2), ones(100)).notSo(ones(0));
        P.says("a = [? 1]").so(ones(0), ones(1)).notSo(ones(2), ones(3));
        P.says("a = [1]").so(ones(1)).notSo(ones(0), ones(2));
        P.says("a = [0*0 1]").so(ones(0)).notSo(ones(1));
        P.says("a = [*0 1]").so(ones(0)).notSo(ones(1));
        P.says("a = [0* 1]").so(ones(0), ones(100));
        P.says("a = [99*99 1]").so(ones(99)).notSo(ones(98), ones(100));
        P.says("a = [100* 1]").so(ones(100)).notSo(ones(99));
        P.says("a = [*99 1]").so(ones(99)).notSo(ones(100));
    }

    private static void occursOfGroupsInArrays() {
        Probe.sentence("a GROUP, ( group ), ~ NAME of an array or map what its group takes;");
        for (String entry : new String[] {"(1, 1)", "g", "~b", "((1), (1))", "h<1>", "~c", "(g)"}) {
            String more = " g = (1, 1) b = [1, 1] h<p> = (p, p) c = {x: 1, 2 => 1}";
            for (int n = 0; n <= 2; n++) {
                for (int m = n; m <= 2; m++) {
                    P.says("a = [" + occur(n, m) + " " + entry + "]" + more);
                    for (int k = 0; k <= 7; k++) P.is(ones(k), k % 2 == 0 && k >= 2 * n && k <= 2 * m ? 1 : 0);
                }
            }
            P.says("a = [" + entry + ", 2]" + more).so("83010102").notSo("820102", "8102", "850101010102");
            P.says("a = [+ " + entry + "]" + more).so(ones(2), ones(4), ones(100)).notSo(ones(0), ones(1), ones(3), ones(99));
        }
    }

    private static void failing() {
        Probe.sentence("failing if less often than it must;");
        P.says("a = [2* 1 // 7]").so(ones(2), ones(3), "8107").notSo(ones(1), ones(0), "820107");
        P.says("a = [? 1, 2*3 2 // 7]").so("8107", "820202", "83010202").notSo("80", "8101", "8102", "820102", "820107");
        P.says("a = [? (1, 2), * any]").so("80", "820102", "8101", "820103").notSo("00");
        P.says("a = [(1, 2) // 1, 3]").so("820102", "820103").notSo("8101");
        P.says("a = [* (1, 2), 1, 3]").so("820103", "8401020103").notSo("83010203", "820102");
        // What has failed takes nothing: what it went through is there again.
        P.says("a = [? (1, 1, 2), 1, 1, 3]").so("83010103", "86010102010103").notSo("8401010203", "8101");
    }

    private static void notTakenBack() {
        Probe.sentence("nothing is taken back.");
        P.says("a = [* int, 5]").notSo("8105", "820105", "80");
        P.says("a = [? int, int]").so("820101").notSo("8101", "80");
        P.says("a = [1*2 int, 2*2 int]").so("8401020304").notSo("83010203", "820102");
        P.says("a = [* (1, ? 2), 2]").so("8102", "83010202").notSo("820102", "83010102");
        P.says("a = [* (1 / 2), 2]").notSo("8102", "820102");
        P.says("a = [(1 // 1, 2), 2]").so("820102").notSo("83010202", "8101");
    }

    private static void oneItem() {
        Probe.sentence("A type takes one item that is so (its key does not count);");
        P.says("a = [x: 1]").so("8101").notSo("82617801", "80", "816178");
        P.says("a = [x: 1, 2: 3, 4 => 5, 6 ^ => 7]").so("8401030507").notSo("8401030506", "8400020406", "83010305");
        P.says("a = [tstr => int]").so("8101").notSo("816161", "82616101");
        P.says("a = [$x => 1]").so("8101");
        P.says("a = [[1]]").so("818101").notSo("8101");
    }

    private static void groupsInArrays() {
        Probe.sentence("a GROUP, ( group ), ~ NAME of an array or map what its group takes;");
        P.says("a = [g, 3] g = (1 // 2, 2)").so("820103", "83020203").notSo("820203", "8103", "820101");
        P.says("a = [(1 // 2, 2), 3]").so("820103", "83020203").notSo("820203");
        P.says("a = [~b, 3] b = [1 // 2, 2]").so("820103", "83020203").notSo("82810103", "820203");
        P.says("a = [~b, 3] b = {x: 1 // y: 2, z: 2}").so("820103", "83020203").notSo("82a161780103", "820203");
        P.says("a = [b, 3] b = [1]").so("82810103").notSo("820103");
        P.says("a = [()]").so("80").notSo("8101");
        P.says("a = [(), 1, ()]").so("8101").notSo("80");
        P.says("a = [g] g //= 1 g //= 2").so("8101", "8102").notSo("820102");
    }

    private static void takesNothing() {
        Probe.sentence("what takes nothing is not tried again");
        P.says("a = [* ()]").so("80").notSo("8101");
        P.says("a = [* (* 1)]").so("80", ones(1), ones(100)).notSo("8102");
        P.says("a = [* (* (* (? 1)))]").so("80", ones(100)).notSo("820102");
        P.says("a = [* (? 1), 2]").so("8102", "820102", "83010102").notSo("80", "8101", "820201");
        P.says("a = [* g] g = (? 1, ? 2)").so("80", "8101", "8102", "820102", "820201", "83020101").notSo("8103", "820103");
        P.says("a = [* ~b] b = [? 1]").so("80", ones(3)).notSo("8102");
    }

    private static void countsAsItMust() {
        Probe.sentence("(and counts as often as it must).");
        for (int n : new int[] {0, 1, 2, 5, 999, 1000}) {
            P.says("a = [" + n + "* ()]").so("80").notSo("8101");
            P.says("a = [" + n + "*" + n + " (), 1]").so("8101").notSo("80");
            P.says("a = [" + n + "* (? 1)]").so("80", ones(1), ones(2), ones(100));
            P.says("a = [" + n + "* (? 1 // 2)]").so("80", ones(1)).notSo("8102");
        }
        P.says("a = [3*3 (? 1), 2]").so("8102", "820102", "83010102", "8401010102").notSo("850101010102", "80");
        P.says("a = [2*3 (1 //)]").so(ones(0), ones(1), ones(2), ones(3)).notSo(ones(4));
        // Tried, and found to fail, it counts no more than what it has taken.
        P.says("a = [2*2 (1, ? 2)]").so("820101", "83010201", "8401020102").notSo("8101", "820102", "80");
        P.says("a = [2* 1, 2]").so("83010102").notSo("820102", "8102");
    }

    private static void waysThroughMaps() {
        Probe.sentence("A MAP is as { group }, if pairs can be given to entries: a way through the group (for each group one of its choices;");
        P.says("a = {}").so("a0", "bfff", "b800").notSo("a10000", "80", "00", "40");
        P.says("a = {0: 0}").so("a10000", "bf0000ff").notSo("a0", "a200000000", "820000", "a10001", "a10100");
        P.says("a = {1 => 1 // 2 => 2}").so("a10101", "a10202").notSo("a0", "a201010202", "a10102", "a10201");
        P.says("a = {1 => 1 // 1 => 1, 2 => 2}").so("a10101", "a201010202", "a202020101").notSo("a10202", "a0");
        P.says("a = {// 1 => 1}").so("a0", "a10101").notSo("a10202");
        P.says("a = {(1 => 1 // 2 => 2), (3 => 3 // 4 => 4)}").so("a201010303", "a201010404", "a202020303", "a204040202").notSo("a10101", "a201010202", "a203030404", "a3010103030404");
        P.says("a = {g} g = (1 => 1 // 2 => 2)").so("a10101", "a10202").notSo("a0", "a201010202");
        // Maps within maps, each by a way of its own.
        P.says("a = {1 => 1, 2 => {5 => 5, 6 => 6}, 3 => 3}").so("a3010102a20505060603" + "03", "a3030302a2060605050101").notSo("a3010102a20505050503" + "03", "a3010202a2050506060303", "a2010102a205050606", "a3010102a205050607" + "0303");
        P.says("a = {1 => {2 => {3 => 3}, 4 => 4}, {5 => 5} => {6 => 6}}").so("a201a202a103030404a10505a10606", "a2a10505a1060601a2040402a10303").notSo("a201a202a103030404a10505a10505", "a201a202a103040404a10505a10606", "a1a10505a10606");
        P.says("a = {* any => a, ? 1 => 1} / 1").so("a201a0a10101a10101", "a20101a0a0").notSo("a201a002a10302", "a1a002");
    }

    private static void occursInMaps() {
        Probe.sentence("each entry a number of times that its OCCUR lets,");
        for (int n = 0; n <= 4; n++) {
            for (int m = n; m <= 4; m++) {
                P.says("a = {" + occur(n, m) + " int => int}");
                for (int k = 0; k <= 6; k++) P.is(pairs(k), k >= n && k <= m ? 1 : 0);
            }
            P.says("a = {" + n + "* int => int}");
            for (int k = 0; k <= 6; k++) P.is(pairs(k), k >= n ? 1 : 0);
            P.says("a = {*" + n + " int => int}");
            for (int k = 0; k <= 6; k++) P.is(pairs(k), k <= n ? 1 : 0);
        }
        P.says("a = {* int => int}").so(pairs(0), pairs(1), pairs(6));
        P.says("a = {+ int => int}").so(pairs(1), pairs(6)).notSo(pairs(0));
        P.says("a = {? int => int}").so(pairs(0), pairs(1)).notSo(pairs(2));
        P.says("a = {int => int}").so(pairs(1)).notSo(pairs(0), pairs(2));
        P.says("a = {0*0 int => int}").so(pairs(0)).notSo(pairs(1));
        P.says("a = {6*6 int => int}").so(pairs(6)).notSo(pairs(5));
        P.says("a = {5*5 int => int}").so(pairs(5)).notSo(pairs(6), pairs(4));
        P.says("a = {7* int => int}").notSo(pairs(6), pairs(0));
        P.says("a = {*1000 int => int}").so(pairs(0), pairs(6));
        P.says("a = {2*3 0: 0}").so("a200000000", "a3000000000000").notSo("a10000", "a4" + Probe.times("0000", 4), pairs(2));
    }

    private static void occursOfGroupsInMaps() {
        Probe.sentence("a GROUP, ( group ), ~ NAME each time by a way of its own;");
        for (String entry : new String[] {"(int => int, int => int)", "g", "~b", "h<int>", "(g)", "((int => int), (int => int))"}) {
            String more = " g = (int => int, int => int) b = {int => int, int => int} h<p> = (p => p, p => p)";
            for (int n = 0; n <= 3; n++) {
                for (int m = n; m <= 3; m++) {
                    P.says("a = {" + occur(n, m) + " " + entry + "}" + more);
                    for (int k = 0; k <= 6; k++) P.is(pairs(k), k % 2 == 0 && k >= 2 * n && k <= 2 * m ? 1 : 0);
                }
            }
            P.says("a = {* " + entry + "}" + more).so(pairs(0), pairs(2), pairs(4), pairs(6)).notSo(pairs(1), pairs(3), pairs(5));
            P.says("a = {+ " + entry + "}" + more).so(pairs(2), pairs(6)).notSo(pairs(0), pairs(1), pairs(5));
            P.says("a = {? " + entry + "}" + more).so(pairs(0), pairs(2)).notSo(pairs(1), pairs(4));
        }
        P.says("a = {~b} b = [int => int]").so(pairs(1)).notSo(pairs(0));
        P.says("a = {~b} b = [int]").notSo(pairs(1), pairs(0));
    }

    private static void eachTimeItsOwnWay() {
        Probe.sentence("each time by a way of its own;");
        P.says("a = {2*2 (1 => 1 // 2 => 2)}").so("a201010202", "a201010101", "a202020202").notSo("a10101", "a3010102020202", "a0");
        P.says("a = {2*2 g} g = (1 => 1 // 2 => 2, 3 => 3)").so("a3010102020303", "a201010101", "a40202030302020303").notSo("a201010202", "a10101");
        P.says("a = {3*3 (? int => 0)}").so(pairs(0), pairs(1), pairs(2), pairs(3)).notSo(pairs(4));
    }

    private static void keysAndValues() {
        Probe.sentence("such that each time that an entry with a key is taken, one pair is given to it, whose key is as its key (NAME : the text of that NAME) and whose value as its type;");
        P.says("a = {1: 2}").so("a10102", "a1180102").notSo("a10103", "a10202", "a10201", "a12102", "a0", "a201020102");
        P.says("a = {-1: 2}").so("a12002").notSo("a10102");
        P.says("a = {\"x\": 2}").so("a1617802", "a17f6178ff02").notSo("a1417802", "a1617902", "a16002");
        P.says("a = {'x': 2}").so("a1417802", "a15f4178ff02").notSo("a1617802");
        P.says("a = {h'00': 2}").so("a1410002").notSo("a14002", "a1610002");
        P.says("a = {1..3 => 2}").so("a10102", "a10302").notSo("a10002", "a10402");
        P.says("a = {[1] => {2 => 3}}").so("a18101a10203").notSo("a18102a10203", "a18101a10202", "a101a10203");
        P.says("a = {int => tstr}").so("a10060").notSo("a16000", "a10000", "a16060");
        P.says("a = {(1 / 2) => 3}").so("a10103", "a10203").notSo("a10303");
        P.says("a = {# => #}").so("a10000", "a1a0a0", "a1f680").notSo("a0", "a200000000");
        P.says("a = {$x => 1}").notSo("a10101", "a0");
    }

    private static void wordKeys() {
        Probe.sentence("(NAME : the text of that NAME)");
        P.says("a = {x: 1}").so("a1617801").notSo("a1417801", "a1617901", "a1615801", "a162787801", "a16001");
        P.says("a = {int: 1}").so("a163696e7401").notSo("a10001", "a10101");
        P.says("a = {p-1.q: 1}").so("a165702d312e7101").notSo("a1617001");
        P.says("a = b<2> b<p> = {p: p}").so("a1617002").notSo("a10202", "a161706170");
        P.says("a = {" + Probe.times("k", 32) + ": 1}").so("a17820" + Probe.times("6b", 32) + "01").notSo("a1781f" + Probe.times("6b", 31) + "01");
        P.says("a = {x => 1} x = 5").so("a10501").notSo("a1617801");
    }

    private static void givenOnce() {
        Probe.sentence("each pair is given once;");
        P.says("a = {1 => 1, 1 => 1}").so("a201010101").notSo("a10101", "a3010101010101", "a0");
        P.says("a = {int => 1, 1 => 1}").so("a201010201").notSo("a10101", "a202010301");
        P.says("a = {? int => 1, ? 1 => 1}").so("a0", "a10101", "a10201", "a201010201", "a201010101").notSo("a202010301", "a10102");
        P.says("a = {int => int, 1 => int, 1 => 2}").so("a3010201030204", "a3020401030102").notSo("a3010101030204", "a201020103");
        P.says("a = {3*3 int => 0, 0 => 0}").so("a40000010002000300").notSo(pairs(3), "a40100020003000400");
        // A pair that none takes.
        P.says("a = {1 => 1}").notSo("a201010202", "a201010101");
    }

    private static void cuts() {
        Probe.sentence("and no pair is given to an entry behind (in the way) one with a CUT (: or ^ => ) whose key its key is as.");
        P.says("a = {? x: 1, * tstr => any}").so("a0", "a1617801", "a1617902", "a2617801617902").notSo("a1617802", "a2617801617802", "a2617802617902");
        P.says("a = {? 1: 1, * int => any}").so("a10101", "a10202").notSo("a10102", "a201010102");
        P.says("a = {? \"x\": 1, * tstr => any}").notSo("a1617802").so("a1617801");
        P.says("a = {? 'x': 1, * bstr => any}").notSo("a1417802").so("a1417801", "a1417902");
        P.says("a = {? 1 ^ => 1, * int => any}").notSo("a10102").so("a10101", "a10202");
        P.says("a = {? int ^ => 1, * any => any}").notSo("a10102", "a10702", "a201010102").so("a10101", "a16002", "a201016002");
        P.says("a = {* int ^ => 1, * any => any}").so("a201010201", "a0", "a3010102016002").notSo("a201010202");
        // Each pair with that key: one more than the entry takes is given to none.
        P.says("a = {x: 1, * tstr => 1}").so("a1617801", "a2617801617901").notSo("a2617801617801");
        P.says("a = {*2 x: 1, * tstr => 1}").so("a2617801617801").notSo("a3617801617801617801");
        P.says("a = {2*2 x: 1}").so("a2617801617801").notSo("a1617801");
    }

    private static void noCuts() {
        Probe.sentence("(: or ^ => )");
        P.says("a = {? \"x\" => 1, * tstr => any}").so("a1617801", "a1617802", "a2617801617802", "a2617801617801");
        P.says("a = {? 1 => 1, * int => any}").so("a10102", "a10101", "a201010102");
        // Only behind it.
        P.says("a = {* tstr => any, ? x: 1}").so("a1617801", "a1617802", "a2617801617802");
        P.says("a = {? x: 1 // * any => any}").so("a1617801", "a1617802");
        P.says("a = {* any => any // ? x: 1}").so("a1617802");
        P.says("a = {(* tstr => any // ? x: 1), ? y: 1}").so("a1617802", "a1617801", "a2617802617903", "a1617903");
    }

    private static void cutsTakenNoTimes() {
        Probe.sentence("an entry with a key is in the way also if it is taken 0 times, what is in a group that is taken 0 times is not)");
        P.says("a = {0*0 x: 1, * tstr => any}").so("a0", "a1617901").notSo("a1617801", "a1617802");
        P.says("a = {? x: 1, ? x: 2}").so("a0", "a1617801").notSo("a1617802", "a2617801617802");
        P.says("a = {* x: 1, * x: 2}").so("a0", "a1617801", "a2617801617801").notSo("a1617802");
        P.says("a = {? (x: 1), * tstr => any}").so("a0", "a1617801", "a1617802", "a1617902", "a2617801617802");
        P.says("a = {0*0 (x: 1), * tstr => any}").so("a0", "a1617801", "a1617802");
        P.says("a = {? (? x: 1), * tstr => any}").so("a0", "a1617801", "a1617802");
        P.says("a = {? g, * tstr => any} g = (? x: 1)").so("a0", "a1617802");
        P.says("a = {? ~b, * tstr => any} b = {? x: 1}").so("a0", "a1617802");
        // 0 times only where its OCCUR lets it.
        P.says("a = {(? x: 1), * tstr => any}").so("a0", "a1617801", "a1617902").notSo("a1617802");
        P.says("a = {+ (? x: 1), * tstr => any}").so("a0", "a1617801").notSo("a1617802");
        P.says("a = {g, * tstr => any} g = (? x: 1)").so("a0", "a1617801").notSo("a1617802");
        P.says("a = {~b, * tstr => any} b = {? x: 1}").so("a0", "a1617801").notSo("a1617802");
    }

    private static void cutsInGroups() {
        Probe.sentence("no pair is given to an entry behind (in the way) one with a CUT");
        P.says("a = {(? x: 1 // ? y: 1), * tstr => any}").so("a1617802", "a1617902", "a1617801").notSo("a2617802617902");
        P.says("a = {? x: 1, (* tstr => any)}").so("a1617902").notSo("a1617802");
        P.says("a = {? x: 1, ? (+ tstr => any)}").so("a1617902", "a0").notSo("a1617802");
        P.says("a = {((? x: 1)), ((* tstr => any))}").so("a1617902").notSo("a1617802");
        // The second time is behind the first one.
        P.says("a = {2*2 (? x: 1)}").so("a0", "a1617801").notSo("a2617801617801");
        P.says("a = {2*2 (? x: 1, ? tstr => 2)}").so("a0", "a1617801", "a2617801617902", "a2617902617a02").notSo("a1617802", "a2617801617802");
        P.says("a = {2*2 (? \"x\" => 1)}").so("a0", "a1617801", "a2617801617801");
        P.says("a = {* (x: 1)}").so("a0", "a1617801").notSo("a2617801617801");
        P.says("a = {2*2 (? tstr => 2, ? x: 1)}").so("a1617802", "a2617802617801").notSo("a3617801617802617802");
    }

    private static void withoutKey() {
        Probe.sentence("An entry without key that is no group has no way but that of 0 times, if its OCCUR lets that.");
        P.says("a = {int}").notSo("a0", "a10000");
        P.says("a = {+ int}").notSo("a0", "a10000");
        P.says("a = {1*2 int}").notSo("a0", "a10000");
        P.says("a = {2* int}").notSo("a0", "a10000");
        P.says("a = {? int}").so("a0").notSo("a10000");
        P.says("a = {* int}").so("a0").notSo("a10000");
        P.says("a = {0*0 int}").so("a0").notSo("a10000");
        P.says("a = {*5 int}").so("a0").notSo("a10000");
        P.says("a = {1*0 int}").notSo("a0", "a10000");
        P.says("a = {? int, 1 => 1}").so("a10101").notSo("a0");
        P.says("a = {int, 1 => 1 // 2 => 2}").so("a10202").notSo("a10101", "a0");
        P.says("a = {(int // 2 => 2)}").so("a10202").notSo("a0");
        P.says("a = {? (int), 1 => 1}").so("a10101").notSo("a0", "a201010000");
    }

    private static void greatOccurs() {
        Probe.sentence("OCCURS above 1000 are 1000 ahead of all else;");
        String[] greats = {"1000", "1001", "1500", "4294967296", "9223372036854775808", "18446744073709551615", "0xffffffff"};
        for (String n : greats) {
            for (String m : greats) {
                P.says("a = [" + n + "*" + m + " ()]").so("80").notSo("8101");
                P.says("a = {" + n + "*" + m + " ()}").so("a0").notSo("a10101");
            }
            for (String m : new String[] {"999", "1", "0"}) {
                P.says("a = [" + n + "*" + m + " ()]").notSo("80");
                P.says("a = {" + n + "*" + m + " ()}").notSo("a0");
            }
            P.says("a = [999*" + n + " ()]").so("80");
            P.says("a = [" + n + "* ()]").so("80");
            P.says("a = [*" + n + " 1]").so("80", ones(100));
            P.says("a = {*" + n + " int => int}").so("a0", pairs(6));
            P.says("a = [" + n + "* 1]").notSo("80", ones(100));
        }
    }

    private static void lessThanLeast() {
        Probe.sentence("an OCCUR n*m with m below n is never so (in arrays, in maps).");
        int[][] rows = {{1, 0}, {2, 1}, {2, 0}, {100, 99}, {1000, 999}};
        for (int[] row : rows) {
            String occur = row[0] + "*" + row[1];
            P.says("a = [" + occur + " 1]").notSo("80", "8101", "820101", ones(99), ones(100));
            P.says("a = [" + occur + " (? 1)]").notSo("80", "8101", "820101", ones(100));
            P.says("a = [" + occur + " 1 // 7]").so("8107").notSo("80", "8101");
            P.says("a = [? (" + occur + " 1), 7]").so("8107").notSo("820107");
            P.says("a = {" + occur + " 1 => 1}").notSo("a0", "a10101", "a201010101");
            P.says("a = {" + occur + " (? 1 => 1)}").notSo("a0", "a10101", "a201010101");
            P.says("a = {" + occur + " 1}").notSo("a0", "a10101");
            P.says("a = {" + occur + " 1 => 1 // 7 => 7}").so("a10707").notSo("a0", "a10101");
            P.says("a = {? (" + occur + " 1 => 1), 7 => 7}").so("a10707").notSo("a0");
            P.says("a = &(" + occur + " 1)").so("01");
        }
        P.says("a = [1*1 1]").so("8101").notSo("80");
        P.says("a = [0*1 1]").so("80", "8101");
        P.says("a = {1*1 1 => 1}").so("a10101").notSo("a0");
        P.says("a = {0*1 1 => 1}").so("a0", "a10101");
    }

    private static void manyPairs() {
        Probe.sentence("A map with more than 6 pairs is never as { group }.");
        P.says("a = {* int => int}").so(pairs(0), pairs(5), pairs(6), "bf" + Probe.times("0000", 6) + "ff", "b806" + Probe.times("0000", 6)).notSo(pairs(7), pairs(8), "bf" + Probe.times("0000", 7) + "ff", "b863" + Probe.times("0000", 99));
        P.says("a = {* # => #}").so(pairs(6)).notSo(pairs(7));
        P.says("a = {7*7 int => int}").notSo(pairs(6), pairs(7));
        P.says("a = {6* int => int}").so(pairs(6)).notSo(pairs(7), pairs(5));
        P.says("a = {0: 0, 1: 0, 2: 0, 3: 0, 4: 0, 5: 0}").so(pairs(6)).notSo(pairs(7), pairs(5));
        P.says("a = {0: 0, 1: 0, 2: 0, 3: 0, 4: 0, 5: 0, 6: 0}").notSo(pairs(7), pairs(6));
        P.says("a = #5").so(pairs(7));
        P.says("a = {* int => int} / #5 .size 1 / # .ne 5").so(pairs(7));
        P.says("a = [* {* int => int}]").so("81" + pairs(6)).notSo("81" + pairs(7), "82" + pairs(6) + pairs(7));
        P.says("a = [* {* # => #}] / #").so("81" + pairs(7));
    }

    private static void needsNoPair() {
        Probe.sentence("An OCCUR of at least n times of what need take no pair counts as gone through.");
        for (String occur : new String[] {"1*", "2*", "7*", "8*", "9*", "999*", "1000*", "1001*", "7*7", "8*9", "1000*1000"}) {
            P.says("a = {" + occur + " ()}").so("a0").notSo("a10101");
            P.says("a = {" + occur + " (? 1 => 1)}").so("a0", "a10101").notSo("a10202");
            P.says("a = {" + occur + " (1 => 1 //), 2 => 2}").so("a10202", "a201010202").notSo("a10101", "a0");
            P.says("a = {" + occur + " g} g = (* 1 => 1)").so("a0", "a10101", "a6" + Probe.times("0101", 6));
            P.says("a = {" + occur + " ~b} b = {* 1 => 1}").so("a0", "a10101", "a6" + Probe.times("0101", 6));
            P.says("a = {" + occur + " (? x: 1), * tstr => any}").so("a0", "a1617801", "a1617902").notSo("a1617802");
            P.says("a = {" + occur + " (1 => 1)}").notSo("a0");
        }
        P.says("a = {3*3 (? 1 => 1)}").so("a0", "a10101", "a201010101", "a3010101010101").notSo("a40101010101010101");
        P.says("a = {6*6 (? 1 => 1)}").so("a6" + Probe.times("0101", 6), "a0");
        P.says("a = {5*5 (? 1 => 1)}").so("a5" + Probe.times("0101", 5)).notSo("a6" + Probe.times("0101", 6));
        P.says("a = {7*7 (1 => 1)}").notSo("a6" + Probe.times("0101", 6), "a0");
        P.says("a = {6*6 (1 => 1)}").so("a6" + Probe.times("0101", 6)).notSo("a5" + Probe.times("0101", 5));
        P.says("a = {7* 1 => 1}").notSo("a0", "a6" + Probe.times("0101", 6));
    }
}
