/** Promises 12 to 16: kin words, what they mean, the shortest of each meaning, and brides. */
public final class KinTest {
    private static final Due DUE = new Due("KinTest");
    private static final String LETTERS = "fmsdbzhw";
    private static final int[] ROUND = {1, 2, 0};
    private static final int[] STILL = {0, 1, 2};
    private static final int[] SIX = {1, 2, 3, 4, 5, 0};
    private static final int[] SWAP = {1, 0, 2, 3, 4, 5};

    public static void main(String[] args) {
        leads();
        leadsByEachLetter();
        about();
        shortest();
        shortestOfEveryWord();
        alike();
        brides();
        many();
        DUE.finish();
    }

    private static void leads() {
        SectionHouse x = new SectionHouse();
        Due.word(x, "mbd", 1);
        DUE.is("no system: leads(0, 0)", x.leads(0, 0), -1);
        Due.system(x, Due.SECTIONS);
        for (int i = 0; i < 4; i++) {
            DUE.is("mbd: leads(0, " + i + ")", x.leads(0, i), x.weds(i));
        }
        DUE.is("leads(0, 4)", x.leads(0, 4), -1);
        DUE.is("leads(0, -1)", x.leads(0, -1), -1);
        DUE.is("leads(1, 0)", x.leads(1, 0), -1);
        DUE.is("leads(-1, 0)", x.leads(-1, 0), -1);
        DUE.is("leads(8, 0)", x.leads(8, 0), -1);
    }

    /** W 0 1 2 0, C 0 1 0 and 2 2: f goes back by C, m to W of that, s from a mother by C of her men. */
    private static void leadsByEachLetter() {
        int[] children = {1, 0, 2};
        one(ROUND, children, "f", 1, 1, 0, 2);
        one(ROUND, children, "m", 1, 2, 1, 0);
        one(ROUND, children, "s", 1, 1, 0, 2);
        one(ROUND, children, "d", 1, 1, 0, 2);
        one(ROUND, children, "s", 0, 2, 1, 0);
        one(ROUND, children, "d", 0, 2, 1, 0);
        one(ROUND, children, "b", 0, 0, 1, 2);
        one(ROUND, children, "z", 1, 0, 1, 2);
        one(ROUND, children, "h", 0, 2, 0, 1);
        one(ROUND, children, "w", 1, 1, 2, 0);
        // sex changes on the way: zs goes by a mother, bs by a father
        one(ROUND, children, "zs", 1, 2, 1, 0);
        one(ROUND, children, "bs", 0, 1, 0, 2);
        one(ROUND, children, "fzd", 1, 1, 2, 0);
        one(ROUND, children, "mbd", 1, 2, 0, 1);
        // a turn that differs from its way back
        one(STILL, ROUND, "f", 1, 2, 0, 1);
        one(STILL, ROUND, "s", 1, 1, 2, 0);
        one(STILL, ROUND, "ssssssss", 1, 2, 0, 1);
    }

    private static void one(int[] wives, int[] children, String word, int sex, int a, int b, int c) {
        SectionHouse x = Due.house(wives, children);
        DUE.is("word " + word, Due.word(x, word, sex), 0);
        DUE.is(word + " from 0", x.leads(0, 0), a);
        DUE.is(word + " from 1", x.leads(0, 1), b);
        DUE.is(word + " from 2", x.leads(0, 2), c);
    }

    private static void about() {
        SectionHouse x = new SectionHouse();
        Due.word(x, "mbd", 1);
        Due.word(x, "hf", 0);
        DUE.is("about(0, 0)", x.about(0, 0), 0);
        DUE.is("about(0, 1)", x.about(0, 1), 1);
        DUE.is("about(0, 2)", x.about(0, 2), 3);
        DUE.is("about(1, 0)", x.about(1, 0), 1);
        DUE.is("about(1, 1)", x.about(1, 1), 0);
        DUE.is("about(1, 2)", x.about(1, 2), 2);
        DUE.is("no system: about(0, 3)", x.about(0, 3), -1);
        DUE.is("no system: about(0, 4)", x.about(0, 4), -1);
        Due.system(x, Due.SECTIONS);
        DUE.is("about(0, 3)", x.about(0, 3), 4);
        DUE.is("about(0, 4)", x.about(0, 4), 1);
        DUE.is("about(1, 3)", x.about(1, 3), 0);
        DUE.is("about(0, 5)", x.about(0, 5), -1);
        DUE.is("about(0, -1)", x.about(0, -1), -1);
        DUE.is("about(2, 0)", x.about(2, 0), -1);
        DUE.is("about(-1, 0)", x.about(-1, 0), -1);
        DUE.is("about(2, 4)", x.about(2, 4), -1);
        // one that leads to a man counts, too
        SectionHouse y = Due.house(ROUND, new int[] {1, 0, 2});
        Due.word(y, "d", 1);
        Due.word(y, "s", 1);
        DUE.is("d: about(0, 3)", y.about(0, 3), 1);
        DUE.is("s: about(1, 3)", y.about(1, 3), 1);
        Due.system(y, Due.systemText(ROUND, STILL));
        DUE.is("d by another system", y.about(0, 3), 0);
    }

    private static void shortest() {
        shortestIs(Due.sections(), "mbd", 1, "w");
        shortestIs(Due.sections(), "fzd", 1, "w");
        shortestIs(Due.sections(), "ff", 1, "");
        shortestIs(Due.sections(), "b", 1, "");
        shortestIs(Due.sections(), "z", 0, "");
        shortestIs(Due.sections(), "z", 1, "z");
        shortestIs(Due.sections(), "b", 0, "b");
        shortestIs(Due.sections(), "fs", 1, "");
        shortestIs(Due.sections(), "s", 1, "f");
        shortestIs(Due.sections(), "mm", 1, "z");
        shortestIs(Due.sections(), "mf", 1, "mf");
        shortestIs(Due.sections(), "mssssssb", 1, "f");
        shortestIs(Due.house(ROUND, STILL), "mbd", 1, "m");
        shortestIs(Due.house(ROUND, STILL), "w", 1, "m");
        shortestIs(Due.house(ROUND, STILL), "wmm", 1, "d");
        shortestIs(Due.house(ROUND, STILL), "whmh", 1, "");
        shortestIs(Due.house(ROUND, STILL), "h", 0, "s");
        shortestIs(Due.house(ROUND, STILL), "hz", 0, "d");
        SectionHouse x = Due.sections();
        Due.word(x, "mbd", 1);
        DUE.is("letter(1, 0)", x.letter(1, 0), -1);
        DUE.is("letter(-1, 0)", x.letter(-1, 0), -1);
        SectionHouse none = new SectionHouse();
        Due.word(none, "mbd", 1);
        DUE.is("no system: letter(0, 0)", none.letter(0, 0), -1);
    }

    private static void shortestIs(SectionHouse x, String word, int sex, String want) {
        int k = Due.word(x, word, sex);
        DUE.is("shortest of " + word + ", letters", x.about(k, 4), want.length());
        for (int i = 0; i < want.length(); i++) {
            DUE.is("shortest of " + word + ", letter " + i, x.letter(k, i), LETTERS.indexOf(want.charAt(i)));
        }
        DUE.is("shortest of " + word + ", one more", x.letter(k, want.length()), -1);
        DUE.is("shortest of " + word + ", letter -1", x.letter(k, -1), -1);
        DUE.is("shortest of " + word + ", letter max", x.letter(k, Integer.MAX_VALUE), -1);
    }

    /** The shortest of each word of three letters is the first that is alike in the order of all words. */
    private static void shortestOfEveryWord() {
        int[] wives = {1, 2, 3, 4, 0};
        int[] children = {1, 0, 2, 4, 3};
        for (int sex = 0; sex < 2; sex++) {
            for (int code = 0; code < 512; code += 5) {
                String word = row(code, 3);
                SectionHouse x = Due.house(wives, children);
                int k = Due.word(x, word, sex);
                if (k == 0 && x.about(0, 4) > 0) {
                    String first = firstAlike(wives, children, word, sex);
                    DUE.is("shortest of " + word + " as found by trying", x.about(0, 4), first.length());
                    for (int i = 0; i < first.length(); i++) {
                        DUE.is("letter of " + word, x.letter(0, i), LETTERS.indexOf(first.charAt(i)));
                    }
                }
            }
        }
    }

    private static String row(int code, int size) {
        StringBuilder text = new StringBuilder();
        for (int i = size - 1; i >= 0; i--) {
            text.append(LETTERS.charAt(code >> 3 * i & 7));
        }
        return text.toString();
    }

    /** A new object now and then, as one answers 512 calls and keeps eight words. */
    private static String firstAlike(int[] wives, int[] children, String word, int sex) {
        SectionHouse x = null;
        for (int size = 1; size <= 3; size++) {
            for (int code = 0; code < 1 << 3 * size; code++) {
                if (x == null || code % 64 == 0) {
                    x = Due.house(wives, children);
                    Due.word(x, word, sex);
                    x.image(0);
                }
                int k = Due.word(x, row(code, size), sex);
                boolean alike = k > 0 && x.alike(0, k);
                x.again(0);
                if (alike) {
                    return row(code, size);
                }
            }
        }
        return "";
    }

    private static void alike() {
        SectionHouse x = new SectionHouse();
        String[] words = {"mbd", "fzd", "w", "mbs", "f"};
        for (String word : words) {
            Due.word(x, word, 1);
        }
        Due.word(x, "f", 0);
        Due.word(x, "mbd", 0);
        DUE.is("no system: alike(0, 0)", x.alike(0, 0), false);
        Due.system(x, Due.SECTIONS);
        DUE.is("mbd and fzd", x.alike(0, 1), true);
        DUE.is("fzd and w", x.alike(1, 2), true);
        DUE.is("a word and itself", x.alike(3, 3), true);
        DUE.is("mbd and mbs: of unlike sex", x.alike(0, 3), false);
        DUE.is("mbs and f", x.alike(3, 4), false);
        DUE.is("f from a man, f from a woman", x.alike(4, 5), false);
        DUE.is("mbd from a man, from a woman", x.alike(0, 6), false);
        DUE.is("alike(0, 7)", x.alike(0, 7), false);
        DUE.is("alike(-1, 0)", x.alike(-1, 0), false);
        DUE.is("alike(-1, -1)", x.alike(-1, -1), false);
        Due.system(x, Due.systemText(ROUND, STILL));
        DUE.is("mbd and fzd in a round", x.alike(0, 1), false);
        DUE.is("mbd and w in a round", x.alike(0, 2), true);
    }

    private static void brides() {
        SectionHouse x = Due.sections();
        int[] wants = {1, 6, 43, 300, 2101, 14706};
        SectionHouse y = Due.house(ROUND, STILL);
        // two letters that lead to the next class: six by a man, two by her, two by sisters and daughters
        int[] rounds = {2, 10, 66, 434, 2938, 20154};
        for (int n = 1; n <= 6; n++) {
            DUE.is("brides(" + n + ")", x.brides(n), wants[n - 1]);
            DUE.is("round: brides(" + n + ")", y.brides(n), rounds[n - 1]);
        }
        DUE.is("brides(0)", x.brides(0), -1);
        DUE.is("brides(7)", x.brides(7), -1);
        DUE.is("brides(-1)", x.brides(-1), -1);
        DUE.is("no system: brides(1)", new SectionHouse().brides(1), -1);
        Due.system(x, Due.systemText(ROUND, STILL));
        DUE.is("brides(2) by another system", x.brides(2), 10);
    }

    private static void many() {
        SectionHouse x = Due.house(SIX, SWAP);
        Due.word(x, "mbd", 1);
        DUE.is("many: about(0, 4)", x.about(0, 4), -1);
        DUE.is("many: letter(0, 0)", x.letter(0, 0), -1);
        DUE.is("many: brides(1)", x.brides(1), -1);
        DUE.is("many: about(0, 2)", x.about(0, 2), 3);
        DUE.is("many: leads(0, 0)", x.leads(0, 0) >= 0, true);
        DUE.is("many: alike(0, 0)", x.alike(0, 0), true);
        Due.system(x, Due.SECTIONS);
        DUE.is("many no more: about(0, 4)", x.about(0, 4), 1);
        DUE.is("many no more: letter(0, 0)", x.letter(0, 0), 7);
        Due.system(x, Due.systemText(SIX, SWAP));
        DUE.is("many again: letter(0, 0)", x.letter(0, 0), -1);
    }
}
