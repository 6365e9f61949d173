/** Promises 8 to 11 and 17 to 20: the system, its laws, its turns, lines of descent and halves. */
public final class SystemTest {
    private static final Due DUE = new Due("SystemTest");
    private static final int[] ROUND = {1, 2, 0};
    private static final int[] STILL = {0, 1, 2};

    public static void main(String[] args) {
        noSystem();
        wedsAndChild();
        properAndEven();
        lawful();
        brokenLines();
        turns();
        comes();
        halves();
        halvesOfEight();
        DUE.finish();
    }

    private static void noSystem() {
        SectionHouse x = new SectionHouse();
        Due.law(x, "must z;");
        for (int what = 0; what < 3; what++) {
            DUE.is("no system: is(" + what + ")", x.is(what), false);
            DUE.is("no system: comes(" + what + ")", x.comes(what), -1);
            DUE.is("no system: halves(" + what + ")", x.halves(what), -1);
            DUE.is("no system: half(" + what + ", 0)", x.half(what, 0), -1);
        }
        DUE.is("no system: weds(0)", x.weds(0), -1);
        DUE.is("no system: child(0, false)", x.child(0, false), -1);
        DUE.is("no system: child(0, true)", x.child(0, true), -1);
        DUE.is("no system: broken()", x.broken(), -1);
        DUE.is("no system: turnsOf()", x.turnsOf(), -1);
    }

    private static void wedsAndChild() {
        SectionHouse x = Due.sections();
        int[] wives = {1, 0, 3, 2};
        int[] ofFather = {2, 3, 0, 1};
        int[] ofMother = {3, 2, 1, 0};
        for (int i = 0; i < 4; i++) {
            DUE.is("weds(" + i + ")", x.weds(i), wives[i]);
            DUE.is("child(" + i + ", false)", x.child(i, false), ofFather[i]);
            DUE.is("child(" + i + ", true)", x.child(i, true), ofMother[i]);
        }
        for (int kind : new int[] {-1, 4, 7, 8, Integer.MAX_VALUE, Integer.MIN_VALUE}) {
            DUE.is("weds(" + kind + ")", x.weds(kind), -1);
            DUE.is("child(" + kind + ", false)", x.child(kind, false), -1);
            DUE.is("child(" + kind + ", true)", x.child(kind, true), -1);
        }
        // a mother of class 1 is wed to men of class 0, whose children are of class 0
        SectionHouse y = Due.house(ROUND, STILL);
        DUE.is("round: weds(2)", y.weds(2), 0);
        DUE.is("round: child(1, false)", y.child(1, false), 1);
        DUE.is("round: child(1, true)", y.child(1, true), 0);
        DUE.is("round: child(0, true)", y.child(0, true), 2);
    }

    private static void properAndEven() {
        properEven(new int[] {1, 0, 3, 2}, new int[] {2, 3, 0, 1}, true, true);
        properEven(ROUND, STILL, true, true);
        // six turns of three classes
        properEven(ROUND, new int[] {1, 0, 2}, true, false);
        // a class weds itself
        properEven(new int[] {1, 0, 2}, ROUND, false, false);
        properEven(STILL, ROUND, false, false);
        // two that never come to the other two
        properEven(new int[] {1, 0, 3, 2}, new int[] {0, 1, 2, 3}, false, false);
        properEven(new int[] {1, 0, 3, 2}, new int[] {1, 0, 2, 3}, false, false);
        // as many turns as classes, but not proper
        properEven(new int[] {0, 1}, new int[] {1, 0}, false, false);
        // turns that are many
        properEven(new int[] {1, 2, 3, 4, 5, 6, 7, 0}, new int[] {1, 0, 2, 3, 4, 5, 6, 7}, true, false);
        SectionHouse x = Due.sections();
        DUE.is("is(3)", x.is(3), false);
        DUE.is("is(-1)", x.is(-1), false);
    }

    private static void properEven(int[] wives, int[] children, boolean proper, boolean even) {
        SectionHouse x = Due.house(wives, children);
        String text = Due.systemText(wives, children);
        DUE.is("is(0) of " + text, x.is(0), proper);
        DUE.is("is(1) of " + text, x.is(1), even);
        DUE.is("is(2) of " + text, x.is(2), proper);
    }

    private static void lawful() {
        SectionHouse x = Due.sections();
        DUE.is("lawful without law", x.is(2), true);
        Due.law(x, "bar z;bar m;must mbd;same fzd mbd;");
        DUE.is("lawful", x.is(2), true);
        Due.law(x, "bar mbd;");
        DUE.is("lawful, mbd barred", x.is(2), false);
        DUE.is("still proper", x.is(0), true);
        Due.law(x, "");
        DUE.is("lawful again", x.is(2), true);
        // lines kept, but not proper
        SectionHouse y = Due.house(new int[] {1, 0, 3, 2}, new int[] {0, 1, 2, 3});
        Due.law(y, "bar z;");
        DUE.is("not proper, so not lawful", y.is(2), false);
        DUE.is("though nothing is broken", y.broken(), -1);
    }

    private static void brokenLines() {
        SectionHouse x = Due.sections();
        broken(x, "", -1);
        broken(x, "bar z;bar m;must mbd;same fzd mbd;", -1);
        broken(x, "must z;", 0);
        broken(x, "bar w;", 0);
        broken(x, "bar z;bar z;must d;bar w;", 2);
        broken(x, "bar z;same f b;", 1);
        broken(x, "same ff b;same z ffz;same s f;", -1);
        broken(x, "same m d;", 0);
        // bar is broken by one class alone, must by one class that is not the bride's
        SectionHouse y = Due.house(ROUND, new int[] {1, 0, 2});
        DUE.is("leads to W of one class", wordBrides(y, "d"), 1);
        broken(y, "bar d;", 0);
        broken(y, "must d;", 0);
        broken(y, "must w;", -1);
    }

    private static int wordBrides(SectionHouse x, String word) {
        return x.about(Due.word(x, word, 1), 3);
    }

    private static void broken(SectionHouse x, String law, int want) {
        Due.law(x, law);
        DUE.is("broken() of '" + law + "'", x.broken(), want);
    }

    private static void turns() {
        DUE.is("turns of the sections", Due.sections().turnsOf(), 4);
        DUE.is("of a round", Due.house(ROUND, STILL).turnsOf(), 3);
        DUE.is("of two that turn", Due.house(ROUND, new int[] {1, 0, 2}).turnsOf(), 6);
        DUE.is("of none that turn", Due.house(STILL, STILL).turnsOf(), 1);
        DUE.is("of five", Due.house(new int[] {1, 2, 3, 4, 0}, new int[] {1, 0, 2, 3, 4}).turnsOf(), 120);
        // all even orders of six: 360
        DUE.is("of six, half", Due.house(new int[] {1, 2, 3, 4, 0, 5}, new int[] {0, 1, 2, 4, 5, 3}).turnsOf(), 360);
        // all orders of six: 720
        DUE.is("of six, all", Due.house(new int[] {1, 2, 3, 4, 5, 0}, new int[] {1, 0, 2, 3, 4, 5}).turnsOf(), -2);
        // pairs turned over and moved about: 2 * 2 * 2 * 2 * 24
        DUE.is("of four pairs",
            Due.house(new int[] {3, 2, 4, 5, 6, 7, 0, 1}, new int[] {2, 3, 0, 1, 4, 5, 6, 7}).turnsOf(), 384);
        DUE.is("of eight, all",
            Due.house(new int[] {1, 2, 3, 4, 5, 6, 7, 0}, new int[] {1, 0, 2, 3, 4, 5, 6, 7}).turnsOf(), -2);
        SectionHouse x = Due.house(new int[] {1, 2, 3, 4, 5, 0}, new int[] {1, 0, 2, 3, 4, 5});
        DUE.is("many", x.turnsOf(), -2);
        Due.system(x, Due.SECTIONS);
        DUE.is("many no more", x.turnsOf(), 4);
    }

    private static void comes() {
        SectionHouse x = Due.sections();
        for (int what = 0; what < 3; what++) {
            DUE.is("sections: comes(" + what + ")", x.comes(what), 2);
        }
        DUE.is("comes(3)", x.comes(3), -1);
        DUE.is("comes(-1)", x.comes(-1), -1);
        SectionHouse y = Due.house(ROUND, STILL);
        DUE.is("round: comes(0)", y.comes(0), 1);
        DUE.is("round: comes(1)", y.comes(1), 3);
        DUE.is("round: comes(2)", y.comes(2), 3);
        int[] fiveAndThree = {1, 2, 3, 4, 0, 6, 7, 5};
        int[] eight = {1, 2, 3, 4, 5, 6, 7, 0};
        SectionHouse z = Due.house(fiveAndThree, eight);
        DUE.is("comes(2) of five and three", z.comes(2), 15);
        DUE.is("comes(0) of eight", z.comes(0), 8);
        SectionHouse v = Due.house(eight, fiveAndThree);
        DUE.is("comes(0) of five and three", v.comes(0), 15);
        SectionHouse w = Due.house(eight, eight);
        DUE.is("comes(1) of like turns", w.comes(1), 1);
    }

    private static void halves() {
        SectionHouse x = Due.sections();
        int[] sets = {5, 9, 3};
        for (int kind = 0; kind < 3; kind++) {
            DUE.is("halves(" + kind + ")", x.halves(kind), 1);
            DUE.is("half(" + kind + ", 0)", x.half(kind, 0), sets[kind]);
            DUE.is("half(" + kind + ", 1)", x.half(kind, 1), -1);
            DUE.is("half(" + kind + ", -1)", x.half(kind, -1), -1);
        }
        DUE.is("halves(3)", x.halves(3), -1);
        DUE.is("halves(-1)", x.halves(-1), -1);
        DUE.is("half(3, 0)", x.half(3, 0), -1);
        SectionHouse y = Due.house(ROUND, STILL);
        for (int kind = 0; kind < 3; kind++) {
            DUE.is("of three: halves(" + kind + ")", y.halves(kind), 0);
            DUE.is("of three: half(" + kind + ", 0)", y.half(kind, 0), -1);
        }
        SectionHouse two = Due.house(new int[] {1, 0}, new int[] {0, 1});
        DUE.is("of two, fathers'", two.half(0, 0), 1);
        DUE.is("of two, mothers'", two.halves(1), 0);
        DUE.is("of two, generations", two.halves(2), 0);
    }

    private static void halvesOfEight() {
        // four pairs that wed, children of their father's class: one of each pair goes with 0
        SectionHouse x = Due.house(new int[] {1, 0, 3, 2, 5, 4, 7, 6}, new int[] {0, 1, 2, 3, 4, 5, 6, 7});
        int[] sets = {0x55, 0x59, 0x65, 0x69, 0x95, 0x99, 0xa5, 0xa9};
        DUE.is("of eight: halves(0)", x.halves(0), 8);
        for (int k = 0; k < 8; k++) {
            DUE.is("of eight: half(0, " + k + ")", x.half(0, k), sets[k]);
        }
        DUE.is("of eight: half(0, 8)", x.half(0, 8), -1);
        DUE.is("of eight: halves(1)", x.halves(1), 0);
    }
}
