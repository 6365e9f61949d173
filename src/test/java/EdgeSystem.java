/** Boundary cases of promises 8 to 11 and 17 to 20: the system, its laws, its turns, descent and halves. */
final class EdgeSystem {
    private static final int[] ROUND = {1, 2, 0};
    private static final int[] STILL = {0, 1, 2};
    private static final int[] SWAP = {1, 0, 2};
    private static final int[] STILL_OF_EIGHT = {0, 1, 2, 3, 4, 5, 6, 7};
    private static final int[] PAIRS = {1, 0, 3, 2, 5, 4, 7, 6};
    private static final int[] FIVE_AND_THREE = {1, 2, 3, 4, 0, 6, 7, 5};

    private EdgeSystem() {
    }

    private static int[] round(int n, int step) {
        int[] row = new int[n];
        for (int i = 0; i < n; i++) {
            row[i] = (i + step) % n;
        }
        return row;
    }

    // ---- promise 8: weds

    static void promise08FirstAndLastClassOfEachNumber(Due due) {
        for (int n = 2; n <= 8; n++) {
            SectionHouse x = Due.house(round(n, 1), round(n, 0));
            due.is("weds(0) of " + n, x.weds(0), 1);
            due.is("weds(" + (n - 1) + ") of " + n, x.weds(n - 1), 0);
        }
    }

    static void promise08NoSuchClass(Due due) {
        for (int n = 2; n <= 8; n++) {
            SectionHouse x = Due.house(round(n, 1), round(n, 0));
            due.is("weds(-1) of " + n, x.weds(-1), -1);
            due.is("weds(" + n + ") of " + n, x.weds(n), -1);
        }
    }

    static void promise08FarNumbers(Due due) {
        SectionHouse x = Due.house(round(8, 1), round(8, 0));
        for (int kind : Due.FAR) {
            due.is("weds(" + kind + ")", x.weds(kind), -1);
        }
    }

    static void promise08NoSystem(Due due) {
        SectionHouse x = new SectionHouse();
        for (int kind = -1; kind <= 8; kind++) {
            due.is("weds(" + kind + ")", x.weds(kind), -1);
        }
    }

    static void promise08AClassThatWedsItself(Due due) {
        due.is("weds(2)", Due.house(SWAP, ROUND).weds(2), 2);
    }

    // ---- promise 9: child

    static void promise09FirstAndLastClassOfEachNumber(Due due) {
        for (int n = 3; n <= 8; n++) {
            // men of i wed i + 1 and have children of i + 2, so a mother of i has children of i + 1
            SectionHouse x = Due.house(round(n, 1), round(n, 2));
            due.is("child(0, false) of " + n, x.child(0, false), 2 % n);
            due.is("child(" + (n - 1) + ", false) of " + n, x.child(n - 1, false), 1);
            due.is("child(0, true) of " + n, x.child(0, true), 1);
            due.is("child(" + (n - 1) + ", true) of " + n, x.child(n - 1, true), 0);
        }
    }

    static void promise09NoSuchClassOfAFather(Due due) {
        for (int n = 2; n <= 8; n++) {
            SectionHouse x = Due.house(round(n, 1), round(n, 0));
            due.is("child(-1, false) of " + n, x.child(-1, false), -1);
            due.is("child(" + n + ", false) of " + n, x.child(n, false), -1);
        }
    }

    static void promise09NoSuchClassOfAMother(Due due) {
        for (int n = 2; n <= 8; n++) {
            SectionHouse x = Due.house(round(n, 1), round(n, 0));
            due.is("child(-1, true) of " + n, x.child(-1, true), -1);
            due.is("child(" + n + ", true) of " + n, x.child(n, true), -1);
        }
    }

    static void promise09FarNumbers(Due due) {
        SectionHouse x = Due.house(round(8, 1), round(8, 0));
        for (int kind : Due.FAR) {
            due.is("child(" + kind + ", false)", x.child(kind, false), -1);
            due.is("child(" + kind + ", true)", x.child(kind, true), -1);
        }
    }

    static void promise09NoSystem(Due due) {
        SectionHouse x = new SectionHouse();
        for (int kind = -1; kind <= 8; kind++) {
            due.is("child(" + kind + ", false)", x.child(kind, false), -1);
            due.is("child(" + kind + ", true)", x.child(kind, true), -1);
        }
    }

    static void promise09ByMenWhoWedThemselves(Due due) {
        SectionHouse x = Due.house(STILL, ROUND);
        for (int kind = 0; kind < 3; kind++) {
            due.is("child(" + kind + ", true)", x.child(kind, true), (kind + 1) % 3);
        }
    }

    // ---- promise 10: is

    static void promise10NoSystem(Due due) {
        SectionHouse x = new SectionHouse();
        for (int what = -1; what <= 3; what++) {
            due.is("is(" + what + ")", x.is(what), false);
        }
    }

    static void promise10AnotherWhat(Due due) {
        SectionHouse x = Due.sections();
        due.is("is(3)", x.is(3), false);
        due.is("is(-1)", x.is(-1), false);
        for (int what : Due.FAR) {
            due.is("is(" + what + ")", x.is(what), false);
        }
    }

    static void promise10OneClassThatWedsItselfIsNotProper(Due due) {
        for (int self = 0; self < 4; self++) {
            int[] wives = new int[4];
            for (int i = 0; i < 4; i++) {
                int next = (i + 1) % 4 == self ? (i + 2) % 4 : (i + 1) % 4;
                wives[i] = i == self ? i : next;
            }
            SectionHouse x = Due.house(wives, round(4, 1));
            due.is("is(0), where " + self + " weds itself", x.is(0), false);
            due.is("is(2), where " + self + " weds itself", x.is(2), false);
        }
    }

    static void promise10ChildrenOfTheirFathersClassAreProper(Due due) {
        due.is("is(0)", Due.house(ROUND, STILL).is(0), true);
        due.is("is(0) of two", Due.house(round(2, 1), round(2, 0)).is(0), true);
        due.is("is(0) of eight", Due.house(round(8, 1), STILL_OF_EIGHT).is(0), true);
    }

    static void promise10ClassesThatDoNotComeToOthersAreNotProper(Due due) {
        due.is("pairs", Due.house(new int[] {1, 0, 3, 2}, new int[] {1, 0, 3, 2}).is(0), false);
        due.is("pairs of eight", Due.house(PAIRS, STILL_OF_EIGHT).is(0), false);
        due.is("five and three", Due.house(FIVE_AND_THREE, FIVE_AND_THREE).is(0), false);
    }

    static void promise10TheLastClassThatIsNotReached(Due due) {
        // 6 and 7 wed, and have children of 6 and 7
        due.is("is(0)", Due.house(PAIRS, new int[] {2, 3, 4, 5, 0, 1, 6, 7}).is(0), false);
        due.is("is(0) if they are reached", Due.house(PAIRS, new int[] {2, 3, 4, 5, 6, 7, 0, 1}).is(0), true);
    }

    static void promise10ReachedByBothTogether(Due due) {
        due.is("is(0)", Due.sections().is(0), true);
        // 0 1, 1 2 by C, 2 3, 3 4 by C ..: one long way, whose end is far from 0
        due.is("is(0) of a long way", Due.house(PAIRS, new int[] {0, 2, 1, 4, 3, 6, 5, 7}).is(0), true);
    }

    static void promise10AsManyTurnsAsClassesIsEven(Due due) {
        due.is("is(1) of two", Due.house(round(2, 1), round(2, 0)).is(1), true);
        due.is("is(1) of eight", Due.house(round(8, 1), round(8, 3)).is(1), true);
    }

    static void promise10MoreTurnsThanClassesIsNotEven(Due due) {
        SectionHouse x = Due.house(ROUND, SWAP);
        due.is("is(0)", x.is(0), true);
        due.is("turnsOf()", x.turnsOf(), 6);
        due.is("is(1)", x.is(1), false);
    }

    static void promise10AsManyTurnsButNotProperIsNotEven(Due due) {
        // C turns three, W nothing
        SectionHouse x = Due.house(STILL, ROUND);
        due.is("turnsOf()", x.turnsOf(), 3);
        due.is("is(1)", x.is(1), false);
        // six turns of six classes, in rounds of two and three, which never meet
        SectionHouse y = Due.house(new int[] {1, 0, 3, 4, 2, 5}, new int[] {0, 1, 2, 3, 4, 5});
        due.is("turnsOf() of rounds that do not meet", y.turnsOf(), 6);
        due.is("is(1) of them", y.is(1), false);
        // four turns of four classes, none of which weds itself, in pairs that never meet
        SectionHouse z = Due.house(new int[] {1, 0, 3, 2}, new int[] {1, 0, 2, 3});
        due.is("turnsOf() of pairs that do not meet", z.turnsOf(), 4);
        due.is("is(1) of them, too", z.is(1), false);
    }

    static void promise10ManyTurnsAreNotEven(Due due) {
        SectionHouse x = Due.house(round(8, 1), new int[] {1, 0, 2, 3, 4, 5, 6, 7});
        due.is("is(0)", x.is(0), true);
        due.is("is(1)", x.is(1), false);
        due.is("is(2)", x.is(2), true);
    }

    static void promise10LawfulWithoutLaw(Due due) {
        due.is("is(2)", Due.sections().is(2), true);
        due.is("is(2) of one that is not proper", Due.house(STILL, ROUND).is(2), false);
    }

    static void promise10NotLawfulByTheLastOfSixteenLines(Due due) {
        SectionHouse x = Due.sections();
        Due.law(x, Due.times("bar z;", 15) + "bar w;");
        due.is("is(2)", x.is(2), false);
        due.is("is(0)", x.is(0), true);
        Due.law(x, Due.times("bar z;", 15) + "must w;");
        due.is("is(2) if it is kept", x.is(2), true);
    }

    static void promise10NotProperIsNotLawfulThoughAllIsKept(Due due) {
        SectionHouse x = Due.house(PAIRS, STILL_OF_EIGHT);
        Due.law(x, "must w;");
        due.is("broken()", x.broken(), -1);
        due.is("is(2)", x.is(2), false);
    }

    // ---- promise 11: broken

    static void promise11NoSystem(Due due) {
        SectionHouse x = new SectionHouse();
        Due.law(x, "must z;bar w;");
        due.is("broken()", x.broken(), -1);
    }

    static void promise11NoLines(Due due) {
        due.is("broken()", Due.sections().broken(), -1);
    }

    static void promise11AllKept(Due due) {
        SectionHouse x = Due.sections();
        Due.law(x, "bar z;must w;same f s;");
        due.is("broken()", x.broken(), -1);
    }

    static void promise11TheFirstLineIs0(Due due) {
        SectionHouse x = Due.sections();
        Due.law(x, "must z;bar w;");
        due.is("broken()", x.broken(), 0);
    }

    static void promise11TheFirstOfSeveral(Due due) {
        SectionHouse x = Due.sections();
        Due.law(x, "bar z;bar m;must z;bar z;bar w;");
        due.is("broken()", x.broken(), 2);
    }

    static void promise11TheLastOfSixteen(Due due) {
        SectionHouse x = Due.sections();
        Due.law(x, Due.times("bar z;", 15) + "must z;");
        due.is("broken()", x.broken(), 15);
    }

    static void promise11NotProperKeepsLines(Due due) {
        SectionHouse x = Due.house(STILL, STILL);
        Due.law(x, "must z;");
        due.is("broken(), as sisters are of the class that is wed", x.broken(), -1);
    }

    static void promise11BarIsBrokenByOneClassAlone(Due due) {
        // a daughter of 0 is of 1, as is his wife; those of 1 and 2 are of 0 and 2
        SectionHouse x = Due.house(ROUND, SWAP);
        Due.law(x, "bar d;");
        due.is("broken()", x.broken(), 0);
        // the class that breaks it is the last one
        SectionHouse y = Due.house(ROUND, new int[] {2, 1, 0});
        Due.law(y, "bar d;");
        due.is("broken() by the last class", y.broken(), 0);
    }

    static void promise11MustIsBrokenByOneClassAlone(Due due) {
        // W 0 1, 1 2, 2 3, 3 4, 4 0 and daughters by C, which goes as W but for 0 and 1, or for 3 and 4
        SectionHouse x = Due.house(round(5, 1), round(5, 1));
        Due.law(x, "must d;");
        due.is("broken() by none", x.broken(), -1);
        Due.system(x, Due.systemText(round(5, 1), new int[] {2, 1, 3, 4, 0}));
        due.is("broken() by the first ones", x.broken(), 0);
        Due.system(x, Due.systemText(round(5, 1), new int[] {1, 2, 3, 0, 4}));
        due.is("broken() by the last ones", x.broken(), 0);
    }

    static void promise11SameIsBrokenByOneClassAlone(Due due) {
        SectionHouse x = Due.house(round(5, 1), new int[] {1, 0, 2, 3, 4});
        Due.law(x, "same s b;");
        due.is("broken() by the first ones", x.broken(), 0);
        Due.system(x, Due.systemText(round(5, 1), new int[] {0, 1, 2, 4, 3}));
        due.is("broken() by the last ones", x.broken(), 0);
        Due.system(x, Due.systemText(round(5, 1), round(5, 0)));
        due.is("broken() by none", x.broken(), -1);
    }

    // ---- promise 17: turnsOf

    static void promise17NoSystem(Due due) {
        due.is("turnsOf()", new SectionHouse().turnsOf(), -1);
    }

    static void promise17NothingDoneIsOneTurn(Due due) {
        due.is("of two", Due.house(round(2, 0), round(2, 0)).turnsOf(), 1);
        due.is("of eight", Due.house(STILL_OF_EIGHT, STILL_OF_EIGHT).turnsOf(), 1);
    }

    static void promise17OneOfBothTurns(Due due) {
        due.is("W alone", Due.house(round(8, 1), STILL_OF_EIGHT).turnsOf(), 8);
        due.is("C alone", Due.house(STILL_OF_EIGHT, FIVE_AND_THREE).turnsOf(), 15);
    }

    /** Of eight classes 384 is the highest number that is not above 500. */
    static void promise17TheMostThatAreNotMany(Due due) {
        SectionHouse x = Due.house(new int[] {0, 1, 2, 3, 5, 4, 7, 6}, new int[] {1, 4, 3, 6, 0, 7, 2, 5});
        due.is("turnsOf()", x.turnsOf(), 384);
        due.is("brides(1) is told", x.brides(1) >= 0, true);
    }

    /** The least number above 500 of eight classes is 576. */
    static void promise17TheFewestThatAreMany(Due due) {
        SectionHouse x = Due.house(new int[] {0, 1, 2, 3, 4, 6, 7, 5}, new int[] {1, 2, 5, 6, 7, 0, 3, 4});
        due.is("turnsOf()", x.turnsOf(), -2);
        due.is("brides(1)", x.brides(1), -1);
    }

    static void promise17TheMostOfAll(Due due) {
        due.is("of 40320", Due.house(round(8, 1), new int[] {1, 0, 2, 3, 4, 5, 6, 7}).turnsOf(), -2);
    }

    static void promise17AnotherWOrAnotherCAlone(Due due) {
        SectionHouse x = Due.house(ROUND, STILL);
        due.is("of a round", x.turnsOf(), 3);
        Due.system(x, Due.systemText(ROUND, SWAP));
        due.is("by another C", x.turnsOf(), 6);
        Due.system(x, Due.systemText(STILL, SWAP));
        due.is("by another W", x.turnsOf(), 2);
        Due.system(x, Due.systemText(STILL, STILL));
        due.is("by the first C", x.turnsOf(), 1);
    }

    static void promise17ManyAndBack(Due due) {
        SectionHouse x = Due.house(round(6, 1), new int[] {1, 0, 2, 3, 4, 5});
        due.is("of 720", x.turnsOf(), -2);
        Due.system(x, Due.TWO);
        due.is("of two", x.turnsOf(), 2);
        Due.system(x, "classes 1;");
        due.is("behind a fault", x.turnsOf(), 2);
        Due.system(x, Due.systemText(round(6, 1), new int[] {1, 0, 2, 3, 4, 5}));
        due.is("of 720 again", x.turnsOf(), -2);
    }

    // ---- promise 18: comes

    static void promise18NoSystem(Due due) {
        SectionHouse x = new SectionHouse();
        for (int what = -1; what <= 3; what++) {
            due.is("comes(" + what + ")", x.comes(what), -1);
        }
    }

    static void promise18AnotherWhat(Due due) {
        SectionHouse x = Due.sections();
        due.is("comes(3)", x.comes(3), -1);
        due.is("comes(-1)", x.comes(-1), -1);
        for (int what : Due.FAR) {
            due.is("comes(" + what + ")", x.comes(what), -1);
        }
    }

    static void promise18OneGenerationAtLeast(Due due) {
        SectionHouse x = Due.house(STILL, STILL);
        for (int what = 0; what < 3; what++) {
            due.is("comes(" + what + ") where nothing turns", x.comes(what), 1);
        }
        // children of the class that their father weds are of their mother's class
        due.is("comes(1) where W is C", Due.house(ROUND, ROUND).comes(1), 1);
    }

    static void promise18AllClassesComeAgainNotOneAlone(Due due) {
        // class 2 comes again at once, 0 and 1 after two generations
        due.is("comes(0)", Due.house(ROUND, SWAP).comes(0), 2);
        due.is("comes(2)", Due.house(SWAP, ROUND).comes(2), 2);
        // class 0 comes again at once
        due.is("comes(0) of the last ones", Due.house(ROUND, new int[] {0, 2, 1}).comes(0), 2);
    }

    static void promise18FifteenIsTheMost(Due due) {
        due.is("comes(0)", Due.house(round(8, 1), FIVE_AND_THREE).comes(0), 15);
        due.is("comes(1)", Due.house(STILL_OF_EIGHT, FIVE_AND_THREE).comes(1), 15);
        due.is("comes(2)", Due.house(FIVE_AND_THREE, round(8, 1)).comes(2), 15);
    }

    static void promise18EveryRoundOfEight(Due due) {
        for (int n = 2; n <= 8; n++) {
            SectionHouse x = Due.house(round(n, 1), round(n, 0));
            due.is("comes(0) of " + n, x.comes(0), 1);
            due.is("comes(1) of " + n, x.comes(1), n);
            due.is("comes(2) of " + n, x.comes(2), n);
        }
    }

    // ---- promise 19: halves

    static void promise19NoSystem(Due due) {
        SectionHouse x = new SectionHouse();
        for (int kind = -1; kind <= 3; kind++) {
            due.is("halves(" + kind + ")", x.halves(kind), -1);
        }
    }

    static void promise19AnotherKind(Due due) {
        SectionHouse x = Due.sections();
        due.is("halves(3)", x.halves(3), -1);
        due.is("halves(-1)", x.halves(-1), -1);
        for (int kind : Due.FAR) {
            due.is("halves(" + kind + ")", x.halves(kind), -1);
        }
    }

    static void promise19NoHalfOfAnOddNumber(Due due) {
        for (int n = 3; n <= 7; n += 2) {
            for (int kind = 0; kind < 3; kind++) {
                due.is("halves(" + kind + ") of " + n, Due.house(round(n, 1), round(n, 0)).halves(kind), 0);
            }
        }
    }

    static void promise19TwoClasses(Due due) {
        // spouses of the other class, children of the father's
        SectionHouse x = Due.house(round(2, 1), round(2, 0));
        due.is("father's: halves(0)", x.halves(0), 1);
        due.is("father's: halves(1)", x.halves(1), 0);
        due.is("father's: halves(2)", x.halves(2), 0);
        // children of the mother's
        SectionHouse y = Due.house(round(2, 1), round(2, 1));
        due.is("mother's: halves(0)", y.halves(0), 0);
        due.is("mother's: halves(1)", y.halves(1), 1);
        due.is("mother's: halves(2)", y.halves(2), 0);
        // spouses of one class, children of the other
        SectionHouse z = Due.house(round(2, 0), round(2, 1));
        due.is("generations: halves(0)", z.halves(0), 0);
        due.is("generations: halves(1)", z.halves(1), 0);
        due.is("generations: halves(2)", z.halves(2), 1);
        SectionHouse still = Due.house(round(2, 0), round(2, 0));
        for (int kind = 0; kind < 3; kind++) {
            due.is("nothing turns: halves(" + kind + ")", still.halves(kind), 0);
        }
    }

    static void promise19EightClasses(Due due) {
        due.is("halves(0)", Due.house(PAIRS, STILL_OF_EIGHT).halves(0), 8);
        due.is("halves(1)", Due.house(PAIRS, PAIRS).halves(1), 8);
        due.is("halves(2)", Due.house(STILL_OF_EIGHT, PAIRS).halves(2), 8);
    }

    // ---- promise 20: half

    static void promise20NoSystem(Due due) {
        SectionHouse x = new SectionHouse();
        for (int kind = -1; kind <= 3; kind++) {
            due.is("half(" + kind + ", 0)", x.half(kind, 0), -1);
        }
    }

    static void promise20AnotherKind(Due due) {
        SectionHouse x = Due.sections();
        due.is("half(3, 0)", x.half(3, 0), -1);
        due.is("half(-1, 0)", x.half(-1, 0), -1);
        for (int kind : Due.FAR) {
            due.is("half(" + kind + ", 0)", x.half(kind, 0), -1);
        }
    }

    static void promise20FirstLastAndOneMore(Due due) {
        SectionHouse x = Due.house(PAIRS, STILL_OF_EIGHT);
        due.is("half(0, 0)", x.half(0, 0), 0x55);
        due.is("half(0, 1)", x.half(0, 1), 0x59);
        due.is("half(0, 7)", x.half(0, 7), 0xa9);
        due.is("half(0, 8)", x.half(0, 8), -1);
        due.is("half(0, -1)", x.half(0, -1), -1);
    }

    static void promise20FarNumbers(Due due) {
        SectionHouse x = Due.house(PAIRS, STILL_OF_EIGHT);
        for (int k : Due.FAR) {
            due.is("half(0, " + k + ")", x.half(0, k), -1);
        }
    }

    static void promise20NoneOfThatKind(Due due) {
        due.is("half(1, 0)", Due.house(PAIRS, STILL_OF_EIGHT).half(1, 0), -1);
        due.is("half(0, 0) of three", Due.house(ROUND, STILL).half(0, 0), -1);
    }

    static void promise20Class0IsAlwaysAmongThem(Due due) {
        SectionHouse x = Due.house(PAIRS, STILL_OF_EIGHT);
        int last = 0;
        for (int k = 0; k < 8; k++) {
            int half = x.half(0, k);
            due.is("bit 0 of half(0, " + k + ")", half & 1, 1);
            due.is("four bits of half(0, " + k + ")", Integer.bitCount(half), 4);
            due.is("half(0, " + k + ") goes up", half > last, true);
            last = half;
        }
    }

    static void promise20HalvesOfTwo(Due due) {
        due.is("half(0, 0)", Due.house(round(2, 1), round(2, 0)).half(0, 0), 1);
        due.is("half(1, 0)", Due.house(round(2, 1), round(2, 1)).half(1, 0), 1);
        due.is("half(2, 0)", Due.house(round(2, 0), round(2, 1)).half(2, 0), 1);
    }
}
