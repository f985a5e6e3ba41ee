/** An ItemJudge with short ways to ask it, which counts and prints each answer that is not due. */
final class Probe {
    private static int wrong = 0;
    private static int asked = 0;

    ItemJudge judge = new ItemJudge();
    private String text = "";

    /** Ends the test: exit code 1 if an answer was not due. */
    static void finish() {
        System.out.println(asked + " answers, " + wrong + " of them not as due");
        if (wrong != 0) System.exit(1);
    }

    static void due(String what, long got, long want) {
        asked++;
        if (got == want) return;
        wrong++;
        System.out.println(what + ": answered " + got + ", due is " + want);
    }

    static void due(String what, String got, String want) {
        asked++;
        if (got.equals(want)) return;
        wrong++;
        System.out.println(what + ": answered " + got + ", due is " + want);
    }

    static String times(String part, int n) {
        return part.repeat(n);
    }

    /** Puts bytes, told as signs 0 to 255, on the tape behind what is there; a block that is not full is ended. */
    void tape(String bytes) {
        for (int i = 0; i < bytes.length(); i += 20) {
            int[] block = new int[5];
            for (int k = 0; k < 20; k++) {
                int c = i + k < bytes.length() ? bytes.charAt(i + k) : 0;
                block[k / 4] = block[k / 4] << 8 | c;
            }
            judge.feed(block[0], block[1], block[2], block[3], block[4]);
            int left = bytes.length() - i;
            if (left < 20) judge.end(left);
        }
    }

    static String fromHex(String hex) {
        StringBuilder bytes = new StringBuilder();
        for (int i = 0; i < hex.length(); i += 2) bytes.append((char) Integer.parseInt(hex.substring(i, i + 2), 16));
        return bytes.toString();
    }

    int grammar(String rules) {
        text = rules;
        tape(rules);
        return judge.grammar();
    }

    int item(String hex) {
        tape(fromHex(hex));
        return judge.item();
    }

    /** The text is so many RULES. */
    void rules(String rules, int count) {
        due(rules, grammar(rules), count);
        due("place of " + rules, judge.place(), -1);
    }

    /** The text has this FAULT at this place. */
    void fault(String rules, int fault, int place) {
        due(rules, grammar(rules), -fault);
        due("place of " + rules, judge.place(), place);
    }

    /** The text has this FAULT where @@ stands, which is no part of it. */
    void faultAt(String marked, int fault) {
        int place = marked.indexOf("@@");
        fault(marked.substring(0, place) + marked.substring(place + 2), fault, place);
    }

    /** The item is so many items. */
    void items(String hex, int count) {
        due("item " + hex, item(hex), count);
    }

    /** The item cannot be WELL-FORMED at this place. */
    void illFormed(String hex, int place) {
        due("item " + hex, item(hex), -2 - place);
    }

    /** Whether rule 0 of the latest text says that the item is so. */
    void is(String hex, int want) {
        due("item " + hex, item(hex) > 0 ? 1 : 0, 1);
        due(hex + " as " + text, judge.judge(0, 0), want);
    }

    void so(String... hexes) {
        for (String hex : hexes) is(hex, 1);
    }

    void notSo(String... hexes) {
        for (String hex : hexes) is(hex, 0);
    }

    /** Takes a text of rules that has no FAULT. */
    Probe says(String rules) {
        due("fault of " + rules, Math.min(0, grammar(rules)), 0);
        return this;
    }

    String out() {
        StringBuilder bytes = new StringBuilder();
        for (int i = 0; judge.out(i) >= 0; i++) bytes.append((char) judge.out(i));
        return bytes.toString();
    }

    String outHex() {
        StringBuilder hex = new StringBuilder();
        for (int i = 0; judge.out(i) >= 0; i++) hex.append(String.format("%02x", judge.out(i)));
        return hex.toString();
    }
}
