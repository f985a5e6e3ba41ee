/** Promises 4 and 5: the form of a text of rules, FAULT 1 and its place. */
public final class FormTest {
    private static final Probe P = new Probe();

    public static void main(String[] args) {
        blanks();
        names();
        numbers();
        occurs();
        strings();
        signs();
        hashes();
        statements();
        types();
        entries();
        keys();
        parens();
        tooMuch();
        Probe.finish();
    }

    private static void blanks() {
        P.rules("", 0);
        P.rules(" \r\n ; only a remark", 0);
        P.rules("a=int", 1);
        P.rules("a = int ; = x\nb = ; [ ( \" '\n tstr", 2);
        P.rules("; \t\u00ff\u0000 anything ; twice\na = 1", 1);
        P.fault("a =\tint", 1, 3);
        P.faultAt("a = int; remark\n@@\u00e9", 1);
        P.faultAt("a = @@", 1);
        P.faultAt("a =  \n ; x\n@@", 1);
        P.faultAt("a@@", 1);
        P.faultAt("@@\0", 1);
    }

    private static void names() {
        P.rules("@a = _b _b = $c", 2);
        P.rules("$ = @ @ = _ _ = 1", 3);
        P.rules("a-b.c = int", 1);
        P.faultAt("a@@- = int", 1);
        P.faultAt("a@@. = int", 1);
        P.faultAt("a@@--.. = int", 1);
        P.rules("a = b..c b..c = 1", 2);
        P.faultAt("a = @@1a", 1);
        P.rules("a0 = int", 1);
        P.faultAt("@@0a = int", 1);
        P.faultAt("@@-a = int", 1);
        P.rules(Probe.times("n", 32) + " = int", 1);
        P.faultAt("@@" + Probe.times("n", 33) + " = int", 1);
        P.faultAt(Probe.times("n", 32) + "@@- = int", 1);
        P.faultAt("a = int @@.", 1);
        P.faultAt("a = int @@." + Probe.times("n", 33) + " 1", 1);
        P.faultAt("a = int @@." + Probe.times("n", 32) + " 1", 8);
    }

    private static void numbers() {
        String[] right = {"0", "7", "10", "0x0", "0xAbCdEf", "0x00000000000000000000001", "0b0", "0b101", "-1", "-0", "-0x1f", "-0b1",
            "18446744073709551615", "-18446744073709551615", "0xffffffffffffffff", "0b" + Probe.times("1", 64)};
        for (String number : right) P.rules("a = " + number, 1);
        String[] none = {"01", "00", "1a", "1_", "0x", "0xg", "0b", "0b2", "0b12", "0X1", "18446744073709551616", "0x10000000000000000",
            "0b1" + Probe.times("0", 64), "-", "--1", "- 1", "-a", "1e", "1e+", "1e5x", "1e5_", "01.5", "18446744073709551616.5", "0x1g"};
        for (String number : none) P.faultAt("a = @@" + number, 1);
        String[] floats = {"1.5", "0.0", "1e3", "1E+3", "1e-3", "1.25e10", "-1.5", "-0.0", "18446744073709551615.0", "1e99999999999999999999"};
        for (String number : floats) P.faultAt("a = @@" + number, 7);
        // What is no FLOAT may still begin with a UINT that is right before the point.
        P.faultAt("a = 1@@.5x", 1);
        P.faultAt("a = 1@@.5e", 1);
        P.faultAt("a = 1@@.", 1);
        P.faultAt("a = 0x1@@.5", 1);
        P.faultAt("a = 1..@@5.6", 7);
        P.rules("a = 1..5", 1);
        P.rules("a = 1...-5", 1);
        P.faultAt("a = 1 @@.e5 1", 8);
        P.faultAt("a = 1@@.e5 1", 8);
        P.faultAt("a = [1@@#8]", 1);
        P.rules("a = [1$$]", 1);
    }

    private static void occurs() {
        String[] right = {"*", "+", "?", "1*", "*1", "1*2", "0x1*0b1", "18446744073709551615*18446744073709551615"};
        for (String occur : right) P.rules("a = [" + occur + " int]", 1);
        P.rules("a = [2*3 4]", 1);
        P.faultAt("a = [2*3@@*4 5]", 1);
        P.faultAt("a = [-1*4@@]", 1);
        P.rules("a = [-1* 4]", 1);
        P.faultAt("a = [1 *2@@]", 1);
        P.faultAt("a = [*@@18446744073709551616 int]", 1);
        P.faultAt("a = [@@18446744073709551616* int]", 1);
        P.faultAt("a = [2*@@3a]", 1);
        P.rules("a = [2*a]", 1);
        P.faultAt("a = [2* @@* int]", 1);
        P.faultAt("a = [?@@]", 1);
        P.faultAt("a = 1..@@5*2", 1);
        P.rules("a = ? int", 1);
        P.faultAt("a /= @@? int", 1);
    }

    private static void strings() {
        P.rules("a = \" !'~\\\"\\\\\\/\\b\\f\\n\\r\\t\"", 1);
        P.rules("a = ' !\"~\\'\\\\\\/\\b\\f\\n\\r\\t'", 1);
        P.rules("a = \"\" b = '' c = h''", 3);
        String[] none = {"\"", "\"a", "\"\\\"", "\"\\'\"", "\"\\u0041\"", "\"\\x\"", "\"a\nb\"", "\"\u007f\"", "\"\u00e9\"", "'", "'a", "'\\\"'", "'\t'",
            "'\\u'", "\"\\"};
        for (String text : none) P.faultAt("a = @@" + text, 1);
        P.rules("a = h'00fF' b = h' 0 0\n1\r1 ' c = h'\n'", 3);
        String[] noBytes = {"h'0'", "h'000'", "h'0g'", "h'00", "h'00;'", "h'\t00'", "h'"};
        for (String bytes : noBytes) P.faultAt("a = @@" + bytes, 1);
        P.faultAt("a = b@@'00'", 1);
        P.faultAt("a = H@@'00'", 1);
        P.rules("a = [h h'00'] h = 1", 2);
        P.faultAt("a = h @@'00'", 1);
        P.faultAt("a = 1 @@.h'zz'", 8);
    }

    private static void signs() {
        P.rules("a=int/tstr b/=int c//=x:int", 3);
        P.rules("a = [int//tstr] b = {x=>y} x = 1 y = 2", 4);
        P.faultAt("a = [int//@@/tstr]", 1);
        P.faultAt("a = [int @@/= 1]", 1);
        P.faultAt("a =@@= int", 1);
        P.faultAt("a @@=> int", 1);
        P.faultAt("a @@: int", 1);
        P.rules("a = 1 .. 2 b = 1...2", 2);
        P.faultAt("a = 1...@@. 2", 1);
        P.faultAt("a = 1...@@.5", 1);
        P.faultAt("a = 1...@@.b 5", 1);
        P.faultAt("a = 1@@. .2", 1);
        P.faultAt("a @@% = 1", 1);
        P.faultAt("a @@! = 1", 1);
    }

    private static void hashes() {
        P.rules("a = [# #0 #1 #2 #3 #4 #5 #7 #7.25 #7.0x19 #6(any) #6.1(any) #6.0b1 (any)]", 1);
        P.faultAt("a = @@#8", 1);
        P.faultAt("a = @@#9.1", 1);
        P.faultAt("a = @@#0.5", 1);
        P.faultAt("a = #6@@", 1);
        P.faultAt("a = #6 @@.1(any)", 1);
        P.faultAt("a = #6@@. 1(any)", 1);
        P.faultAt("a = #6@@.1a(any)", 1);
        P.faultAt("a = #7@@.25_", 1);
        P.faultAt("a = #6@@6(any)", 1);
        P.faultAt("a = #1@@0", 1);
        P.rules("a = [#10]", 1);
        P.rules("a = [# 6]", 1);
        P.faultAt("a = #6@@.a(any)", 1);
        P.rules("a = #2.size 3", 1);
        P.faultAt("a = @@#7..5", 8);
        P.rules("a = [#7.25*2 int]", 1);
        P.faultAt("a = #6(@@)", 1);
        P.faultAt("a = #6(any@@, any)", 1);
    }

    private static void statements() {
        P.rules("a<p> = p b = a<int>", 2);
        P.rules("a<p,q> /= p", 1);
        P.faultAt("a<@@> = int", 1);
        P.faultAt("a<p @@q> = int", 1);
        P.faultAt("a<p,@@> = int", 1);
        P.faultAt("a<@@1> = int", 1);
        P.faultAt("a<p @@= int", 1);
        P.faultAt("a<p> @@int", 1);
        P.faultAt("@@= int", 1);
        P.faultAt("@@1 = int", 1);
        P.faultAt("a = int@@, b = int", 1);
        P.faultAt("a = b c @@: int", 1);
        P.faultAt("a = int b@@", 1);
        P.faultAt("a = int b<c> @@d", 1);
        P.faultAt("a = b<c> @@= 1", 1);
        P.faultAt("a = b / c @@= 1", 1);
        P.faultAt("a = b<c> @@/= 1", 1);
        P.rules("a = 1 b<c> = 2", 2);
        P.rules("a = 1 a /= 2 b //= 3", 2);
        P.faultAt("a = int @@5", 1);
        P.faultAt("a = int @@]", 1);
    }

    private static void types() {
        P.rules("a = int / tstr / 1..2 / (3 / 4) / [5] / {6 => 7} / ~time / &(x: 8) / 'b' / \"t\"", 1);
        P.faultAt("a = int /@@", 1);
        P.faultAt("a = [int / @@]", 1);
        P.faultAt("a = 1..5@@..7", 1);
        P.faultAt("a = int .size 1 @@.size 2", 1);
        P.faultAt("a = int .size@@", 1);
        P.faultAt("a = ~@@(time)", 1);
        P.faultAt("a = ~@@5", 1);
        P.faultAt("a = &@@[x]", 1);
        P.faultAt("a = [1@@", 1);
        P.faultAt("a = [1@@)", 1);
        P.faultAt("a = (1@@]", 1);
        P.faultAt("a = {1 : int@@", 1);
        P.faultAt("a = b<1@@", 1);
        P.faultAt("a = b<@@>", 1);
        P.faultAt("a = b<1 @@/ 2>", 1);
        P.rules("a = b<1..2, (1 / 2)> b<p, q> = p", 2);
    }

    private static void entries() {
        P.rules("a = []", 1);
        P.rules("a = [//]", 1);
        P.rules("a = [1, // 2]", 1);
        P.rules("a = [1 2,3 , 4,]", 1);
        P.faultAt("a = [@@,]", 1);
        P.faultAt("a = [1,@@,2]", 1);
        P.faultAt("a = [1 // @@, 2]", 1);
        P.faultAt("a = [1 @@= 2]", 1);
        P.faultAt("a = [b @@= 2]", 1);
        P.rules("a = (x: int, y: int)", 1);
        P.rules("a = ()", 1);
        P.rules("a //= * int", 1);
        P.rules("a //= (1 // 2)", 1);
        P.faultAt("a /= (1 @@// 2)", 1);
        P.faultAt("a /= (@@)", 1);
    }

    private static void keys() {
        P.rules("a = {b: 1, 2: 3, \"c\": 4, 'd': 5, -6: 7, int => 8, 1..2 ^ => 9, [x] => 10, (int / 11) => 12} x = 1", 2);
        P.rules("a = b : 1", 1);
        P.faultAt("a = {b<int> @@: 1}", 1);
        P.faultAt("a = {[x] @@: 1}", 1);
        P.faultAt("a = {1..2 @@: 3}", 1);
        P.faultAt("a = {b ^ @@1}", 1);
        P.faultAt("a = {b ^ @@: 1}", 1);
        P.faultAt("a = {b ^@@", 1);
        P.faultAt("a = {b / c @@=> 1}", 1);
        P.faultAt("a = {b: @@}", 1);
        P.faultAt("a = {b => @@}", 1);
        P.faultAt("a = {b: c@@: 1}", 1);
        P.faultAt("a = {b => c @@=> 1}", 1);
        P.faultAt("a = {@@1.5: int}", 7);
        P.rules("a = {b: int c: int}", 1);
    }

    private static void parens() {
        P.rules("a = [(1) (1, 2) (1 // 2) ((1)) ((1, 2)) () (x: 1) (1 => 2)]", 1);
        P.rules("a = {(1) => 2, (1 / 2) ^ => 3, (1) .and 2 => 4}", 1);
        P.rules("a = [(1) / 2, ? (1) .size 3]", 1);
        // The reading as a type fails as a whole: told is what the reading as a group meets.
        P.faultAt("a = [(1) @@/ ]", 1);
        P.faultAt("a = [(1) @@^ 2]", 1);
        P.faultAt("a = [(1) @@=> ]", 1);
        P.faultAt("a = [(1) @@=> (2, 3)]", 1);
        P.faultAt("a = [(1) @@.. ]", 1);
        P.faultAt("a = [(1) @@.size ]", 1);
        P.faultAt("a = [(1, 2) @@/ 3]", 1);
        P.faultAt("a = [(1, 2) @@=> 3]", 1);
        P.faultAt("a = [(1) @@: 2]", 1);
        P.faultAt("a = [(1 / (2@@, 3))]", 1);
        P.faultAt("a = (1, @@", 1);
        P.faultAt("a = ((1, 2) @@/ 3)", 1);
        P.rules("a = (1) => 2", 1);
        P.rules("a = ? (1) => 2", 1);
        P.rules("a = & (1, 2)", 1);
    }

    private static void tooMuch() {
        P.rules("a = 1" + Probe.times("/ 1 ", 148) + "; three hundred less one", 1);
        P.rules("a //= 1" + Probe.times("/ 1 ", 148), 1);
        P.faultAt("a //= (1" + Probe.times("/ 1 ", 147) + ") @@1", 1);
        P.faultAt("a //= (1" + Probe.times("/ 1 ", 147) + " )@@\t", 1);
        P.faultAt("b = 1 a = 1" + Probe.times("/ 1", 147) + "@@/ 1", 1);
        P.rules("a = " + Probe.times("[", 16) + Probe.times("]", 16), 1);
        P.faultAt("a = " + Probe.times("[", 16) + "@@[" + Probe.times("]", 17), 1);
        P.rules("a = [" + Probe.times("[]", 40) + "]", 1);
        P.faultAt("a = " + Probe.times("(", 16) + "@@(" + Probe.times(")", 17), 1);
        P.faultAt("a = " + Probe.times("{", 8) + Probe.times("[", 8) + "@@<", 1);
        P.faultAt("a = " + Probe.times("[", 15) + "b<@@[]>" + Probe.times("]", 15), 1);
    }
}
