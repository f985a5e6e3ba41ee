/** An ItemJudge with short ways to ask it, which counts and prints each answer that is not due. */
final class Probe {
    private static int wrong = 0;
    private static int asked = 0;
    private static String sentence = "";
    private static int sentences = 0;
    private static int askedBefore = 0;

    ItemJudge judge = new ItemJudge();
    private String text = "";

    /** Ends the test: exit code 1 if an answer was not due. */
    static void finish() {
        endSentence();
        String of = sentences == 0 ? "" : "to " + sentences + " sentences of the document ";
        System.out.println(asked + " answers " + of + "asked for, " + wrong + " of them not as due");
        if (wrong != 0) System.exit(1);
    }

    /** What is asked from here on is due by these words of the document, until others are named. */
    static void sentence(String words) {
        endSentence();
        sentence = words;
        sentences++;
        askedBefore = asked;
    }

    private static void endSentence() {
        if (sentences == 0 || asked > askedBefore) return;
        wrong++;
        System.out.println("nothing is asked for: " + sentence);
    }

    private static void notDue(String what, String got, String want) {
        wrong++;
        System.out.println(brief(what) + ": answered " + brief(got) + ", due is " + brief(want) + (sentence.isEmpty() ? "" : " (" + sentence + ")"));
    }

    private static String brief(String words) {
        return words.length() <= 500 ? words : words.substring(0, 500) + ".. " + (words.length() - 500) + " signs more";
    }

    static void due(String what, long got, long want) {
        asked++;
        if (got != want) notDue(what, "" + got, "" + want);
    }

    static void due(String what, String got, String want) {
        asked++;
        if (!got.equals(want)) notDue(what, got, want);
    }

    static String times(String part, int n) {
        return part.repeat(n);
    }

    /** Puts bytes, told as signs 0 to 255, on the tape behind what is there; a block that is not full is ended. */
    void tape(String bytes) {
        for (int i = 0; i < bytes.length(); i += 20) {
            int[] block = new int[5];
            for (int k = 0; k < 20; k++) {
                int c = i + k < bytes.length() ? bytes.charAt(i + k) : 0;
                block[k / 4] = block[k / 4] << 8 | c;
            }
            judge.feed(block[0], block[1], block[2], block[3], block[4]);
            int left = bytes.length() - i;
            if (left < 20) judge.end(left);
        }
    }

    static String fromHex(String hex) {
        StringBuilder bytes = new StringBuilder();
        for (int i = 0; i < hex.length(); i += 2) bytes.append((char) Integer.parseInt(hex.substring(i, i + 2), 16));
        return bytes.toString();
    }

    int grammar(String rules) {
        text = rules;
        tape(rules);
        return judge.grammar();
    }

    int item(String hex) {
        tape(fromHex(hex));
        return judge.item();
    }

    /** The text is so many RULES. */
    void rules(String rules, int count) {
        due(rules, grammar(rules), count);
        due("place of " + rules, judge.place(), -1);
    }

    /** The text has this FAULT at this place. */
    void fault(String rules, int fault, int place) {
        due(rules, grammar(rules), -fault);
        due("place of " + rules, judge.place(), place);
    }

    /** The text has this FAULT where @@ stands, which is no part of it. */
    void faultAt(String marked, int fault) {
        int place = marked.indexOf("@@");
        fault(marked.substring(0, place) + marked.substring(place + 2), fault, place);
    }

    /** The item is so many items. */
    void items(String hex, int count) {
        due("item " + hex, item(hex), count);
    }

    /** The item cannot be WELL-FORMED at this place. */
    void illFormed(String hex, int place) {
        due("item " + hex, item(hex), -2 - place);
    }

    /** Whether rule 0 of the latest text says that the item is so. */
    void is(String hex, int want) {
        due("item " + hex, item(hex) > 0 ? 1 : 0, 1);
        due(hex + " as " + text, judge.judge(0, 0), want);
    }

    Probe so(String... hexes) {
        for (String hex : hexes) is(hex, 1);
        return this;
    }

    Probe notSo(String... hexes) {
        for (String hex : hexes) is(hex, 0);
        return this;
    }

    /** Takes a text of rules that has no FAULT. */
    Probe says(String rules) {
        due("fault of " + rules, Math.min(0, grammar(rules)), 0);
        return this;
    }

    String out() {
        StringBuilder bytes = new StringBuilder();
        for (int i = 0; judge.out(i) >= 0; i++) bytes.append((char) judge.out(i));
        return bytes.toString();
    }

    String outHex() {
        StringBuilder hex = new StringBuilder();
        for (int i = 0; judge.out(i) >= 0; i++) hex.append(String.format("%02x", judge.out(i)));
        return hex.toString();
    }
}
