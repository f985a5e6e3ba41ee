/** Promise 9: arrays, maps and their room (sections 5 to 7 of THE TAPE). */
public final class ListTest {
    private static final Probe P = new Probe();

    public static void main(String[] args) {
        arrays();
        arrayOccurs();
        nothingTakenBack();
        arrayGroups();
        takingNothing();
        maps();
        mapOccurs();
        mapWays();
        cuts();
        cutsInGroups();
        mapGroups();
        room();
        manyWays();
        Probe.finish();
    }

    private static void arrays() {
        P.says("a = [int, tstr]").so("82016161", "9f016161ff");
        P.notSo("80", "8101", "8301616101", "82616101", "a1016161", "01");
        P.says("a = []").so("80", "9fff");
        P.notSo("8101", "a0");
        P.says("a = [1 // 2, 3]").so("8101", "820203");
        P.notSo("8102", "820103");
        P.says("a = [1, x: 2, 3 => 4, 5 ^ => 6]").so("8401020406");
        P.notSo("8401030405");
        P.says("a = [[1], [[2]]]").so("828101818102");
        P.notSo("8281018102");
        P.says("a = [//]").so("80");
        P.notSo("8100");
    }

    private static void arrayOccurs() {
        P.says("a = [? 1, 2]").so("8102", "820102");
        P.notSo("8101", "83010102", "80");
        P.says("a = [* 1, 2]").so("8102", "8401010102");
        P.says("a = [+ 1]").so("8101", "83010101");
        P.notSo("80", "8102");
        P.says("a = [2*3 1]").so("820101", "83010101");
        P.notSo("8101", "8401010101", "80");
        P.says("a = [2* 1]").so("820101", "8401010101");
        P.notSo("8101");
        P.says("a = [*2 1]").so("80", "8101", "820101");
        P.notSo("83010101");
        P.says("a = [0*0 1]").so("80");
        P.notSo("8101");
        P.says("a = [2*1 1]").notSo("80", "8101", "820101", "83010101");
        P.says("a = [? 1, 3*2 2 // 7]").so("8107");
        P.notSo("80", "8101", "820102");
        P.says("a = [0x2*0b10 1]").so("820101");
        P.notSo("8101", "83010101");
        P.says("a = [*2 x: 1]").so("820101");
        P.says("a = [100* 1]").so("9864" + Probe.times("01", 100));
        P.says("a = [101* 1]").notSo("9864" + Probe.times("01", 100));
    }

    private static void nothingTakenBack() {
        P.says("a = [* int, 5]").notSo("8105", "820105");
        P.says("a = [? int, int]").so("820101");
        P.notSo("8101");
        P.says("a = [(1 // 1, 2), 3]").so("820103");
        P.notSo("83010203");
        P.says("a = [(1, 2 // 1), 3]").so("83010203", "820103");
        P.says("a = [1 // 1, 2]").so("8101");
        P.notSo("820102");
        P.says("a = [*(1, 2), 1, 3]").so("8401020103", "820103");
        P.says("a = [2*(1, 2), 1, 3]").so("86010201020103");
        P.notSo("8401020103");
        P.says("a = [1*2 int, 2*2 int]").so("8401020304");
        P.notSo("83010203");
    }

    private static void arrayGroups() {
        P.says("a = [g, * h] g = (1, 2) h = (3, ? 4)").so("820102", "83010203", "8401020304", "850102030304", "86010203040304");
        P.notSo("8101", "83010204", "80");
        P.says("a = [2*2 g] g = (1 // 2)").so("820102", "820201", "820101");
        P.notSo("8101", "83010101");
        P.says("a = [g] g = (1, 2) g //= 3 g //= (4 // 5, 6)").so("820102", "8103", "8104", "820506");
        P.notSo("8101", "8105");
        P.says("a = [b] b = c c = (d) d = (1, 2)").so("820102");
        P.says("a = [b] b /= g b /= h g = (1, 2) h = (3, 4)").so("820102", "820304");
        P.notSo("820104");
        P.says("a = [? $$g, 1]").so("8101");
        P.says("a = [$$g // 1]").so("8101");
        P.says("a = [$$g]").notSo("80", "8101");
        P.says("a = [$$g, 1] $$g //= (2 // 3)").so("820201", "820301");
        P.says("a = [* (int, tstr)]").so("80", "82016161", "84016161026162");
        P.notSo("8101", "8301616102");
    }

    private static void takingNothing() {
        P.says("a = [5*5 (), 1]").so("8101");
        P.says("a = [* (? 1)]").so("80", "8101", "83010101");
        P.says("a = [3* (? 1)]").so("80", "8101", "8401010101");
        P.says("a = [1000*1000 (* 1)]").so("80", "83010101");
        P.says("a = [*(*(*(*(? 1))))]").so("80", "83010101");
        P.notSo("820102");
        P.says("a = [2*3 (1 // )]").so("80", "8101", "820101", "83010101");
        P.notSo("8401010101");
        P.says("a = [2*1 ()]").notSo("80");
    }

    private static void maps() {
        P.says("a = {x: int, \"y\": tstr, 5: 6, 'z': 7}").so("a4617801617961610506417a07", "a40506417a0761796161617801");
        P.notSo("a3617801617961610506", "a0", "a5417801617961610506417a070000", "a4417801617961610506417a07", "80");
        P.says("a = {int => tstr}").so("a1016161");
        P.notSo("a10101", "a161616161", "a0", "a2016161026161");
        P.says("a = {1 => 2, 1 => 3}").so("a201020103", "a201030102");
        P.notSo("a10102", "a201020102");
        P.says("a = {}").so("a0", "bfff");
        P.notSo("a10000", "80");
        P.says("a = {x: 1 // y: 2}").so("a1617801", "a1617902");
        P.notSo("a0", "a2617801617902");
        P.says("a = {int}").notSo("a0", "a10101");
        P.says("a = {? int, x: 1}").so("a1617801");
        P.says("a = {+ int, x: 1}").notSo("a1617801");
        P.says("a = {* any // y: 1}").so("a0", "a1617901");
        P.notSo("a10000");
        P.says("a = {{x: 1} => {y: 2}}").so("a1a1617801a1617902");
        P.notSo("a1a1617801a1617903", "a1a0a1617902");
    }

    private static void mapOccurs() {
        P.says("a = {? x: int, * tstr => tstr}").so("a0", "a1617801", "a26178016179617a", "a16179617a");
        P.notSo("a16178617a", "a1617901");
        P.says("a = {2*3 int => int}").so("a201010202", "a3010102020303");
        P.notSo("a10101", "a40101020203030404", "a0");
        P.says("a = {+ int => int}").so("a10101");
        P.notSo("a0");
        P.says("a = {2*1 int => int}").notSo("a0", "a10101", "a201010202");
        P.says("a = {2*1 x: 1 // y: 2}").so("a1617902");
        P.notSo("a0", "a1617801", "a2617801617801");
        P.says("a = {0*0 int => int}").so("a0");
        P.notSo("a10101");
        P.says("a = {2*2 x: 1}").so("a2617801617801");
        P.notSo("a1617801");
    }

    private static void mapWays() {
        // Which entry a pair is given to is tried in every way.
        P.says("a = {int => any, 1 => 2}").so("a201020304", "a203040102", "a201020101");
        P.notSo("a10102", "a203040506");
        P.says("a = {? int => any, 1 => 2}").so("a10102", "a201020304");
        P.says("a = {* int => any, 1*1 1 => 2, 2 => 3}").so("a201020203", "a3010202030000");
        P.notSo("a10102", "a10203");
        P.says("a = {1*2 int => 1, 1*2 (1 / 2) => (1 / 2), 3 => 1}").so("a3010102020301", "a40101020103010102");
        P.says("a = {(1 => 1 // 1 => 2, 3 => 4), * int => int}").so("a10101", "a201020304", "a201010304");
        P.notSo("a10102", "a10304");
        P.says("a = {2*2 (int => 1 // tstr => 2)}").so("a201010201", "a20101616102", "a2616102616202");
        P.notSo("a10101", "a201010202");
        P.says("a = {+ (1 => 1, 2 => 2)}").so("a201010202", "a40101020201010202");
        P.notSo("a0", "a10101", "a3010102020101");
        P.says("a = {? (1 => 1, 2 => 2), ? 1 => any}").so("a201010202", "a10101", "a0", "a3010102020105");
        P.notSo("a10202");
    }

    private static void cuts() {
        P.says("a = {? x: int, * tstr => any}").so("a1617801", "a0", "a1617900");
        P.notSo("a161786161");
        P.says("a = {? \"x\" => int, * tstr => any}").so("a161786161", "a1617801");
        P.says("a = {? \"x\" ^ => int, * tstr => any}").notSo("a161786161");
        // A CUT holds only behind it.
        P.says("a = {* tstr => any, ? x: int}").so("a161786161");
        P.says("a = {* int ^ => 1, * any => any}").so("a10101", "a1616105", "a20101616105");
        P.notSo("a10102", "a201010202");
        P.says("a = {? x: 1, ? x: 2}").so("a1617801", "a0");
        P.notSo("a1617802", "a2617801617802");
        P.says("a = {? x: 1, ? y: 2, * tstr => int}").so("a2617801617902", "a3617801617902617a00");
        P.notSo("a1617802", "a1617901");
        // One pair more than the entry may be given has that key.
        P.says("a = {x: 1, * tstr => 1}").notSo("a2617801617801");
        P.says("a = {\"x\" => 1, * tstr => 1}").so("a2617801617801");
        P.says("a = {*2 x: 1, * tstr => 1}").so("a2617801617801");
        // Taken 0 times it is in the way, too.
        P.says("a = {0*0 x: 1, * tstr => 1}").so("a1617901");
        P.notSo("a1617801");
        P.says("a = {? x: 1 // * any => any}").so("a1617802", "a1617801");
    }

    private static void cutsInGroups() {
        // What is in a group that is taken 0 times is not in the way; in one that is gone through it is.
        P.says("a = {? (? x: 1), * tstr => 2}").so("a1617802", "a1617801");
        P.says("a = {(? x: 1), * tstr => 2}").notSo("a1617802");
        P.says("a = {1*3 (? x: 1), * tstr => 2}").so("a1617801", "a1617902");
        P.notSo("a1617802");
        P.says("a = {(? x: 1 // ? y: 1), * tstr => 2}").so("a1617802", "a1617902", "a2617801617902");
        P.notSo("a2617802617801", "a3617801617902617901");
        // Gone through twice, the second time is behind the first one.
        P.says("a = {2*2 (? x: 1)}").so("a1617801", "a0");
        P.notSo("a2617801617801");
        P.says("a = {2*2 (? \"x\" => 1)}").so("a2617801617801");
        P.says("a = {* (x: 1)}").so("a0", "a1617801");
        P.notSo("a2617801617801");
    }

    private static void mapGroups() {
        P.says("a = {g, ? h} g = (x: 1, * i) h = ((y: 2 // z: 3)) i = (int => int)").so("a1617801", "a26178010102", "a36178010102617a03");
        P.notSo("a0", "a2617902617a03");
        P.says("a = {g<int>} g<p> = (x: p, ? p => p)").so("a1617805", "a26178050607");
        P.notSo("a161786161");
        P.says("a = {* $$g, x: 1}").so("a1617801");
        P.says("a = {$$g, x: 1}").notSo("a1617801", "a0");
        P.says("a = {$$g, x: 1} $$g //= (y: 2) $$g //= z: 3").so("a2617801617902", "a2617801617a03");
        P.says("a = {~b, ? ~c} b = {x: 1} c = {y: 2}").so("a1617801", "a2617801617902");
        P.notSo("a1617902");
        P.says("a = {(int) => (tstr / int), ((x: 1)), (y: 2)}").so("a30101617801617902");
        P.says("a = {g // h} g = (1 => 1) h = (2 => 2)").so("a10101", "a10202");
        P.notSo("a201010202", "a0");
    }

    private static void room() {
        P.says("a = {* int => int}").so("a6000001010202030304040505");
        P.notSo("a70000010102020303040405050606");
        P.says("a = any").so("a70000010102020303040405050606");
        P.says("a = {* int => {* int => int}}").so("a100a6000001010202030304040505");
        P.notSo("a100a70000010102020303040405050606");
        // OCCURS above 1000 are 1000 ahead of all else.
        P.says("a = [1500*1200 ()]").so("80");
        P.says("a = [18446744073709551615*1000 ()]").so("80");
        P.says("a = [1000*999 ()]").notSo("80");
        P.says("a = {1500*1200 (? 1 => 1)}").so("a0", "a10101", "a6010101010101010101010101");
        P.says("a = {1000*999 (? 1 => 1)}").notSo("a0", "a10101");
        P.says("a = {7*7 (? 1 => 1)}").so("a0", "a6010101010101010101010101");
        P.says("a = {5*5 (? 1 => 1)}").so("a501010101010101010101");
        P.notSo("a6010101010101010101010101");
        P.says("a = {6*6 (? 1 => 1), ? 1 => 1}").so("a6010101010101010101010101");
        P.says("a = {7*9 (1 => 1)}").notSo("a6010101010101010101010101", "a0");
    }

    /** What would be tried in too many ways, if each were tried on its own. */
    private static void manyWays() {
        String stars = "* 1, 7";
        for (int i = 0; i < 12; i++) stars = "*(" + stars + ", 7 // 1)";
        P.says("a = [" + stars + "]").so("9864" + Probe.times("01", 100));
        P.notSo("9864" + Probe.times("01", 99) + "02");
        String ways = "? 1 => 1";
        for (int i = 0; i < 12; i++) ways = "*(" + ways + ", ? " + i % 6 + " => int // ? any => 7)";
        P.says("a = {" + ways + "}").so("a6000101010201030104010501");
        P.notSo("a6000101010201030104010608");
        P.says("a = {* any => a} / [* a] / 1 / " + Probe.times("{* any => [* a]} / ", 12) + "2").so(Probe.times("a100", 9) + "01");
        P.notSo(Probe.times("a100", 9) + "03");
    }
}
