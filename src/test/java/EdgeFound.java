/** Boundary cases of promises 30 to 36: what is found out of what was told. */
final class EdgeFound {
    private static final int[] ROUND = {1, 2, 0};
    private static final int[] STILL = {0, 1, 2};
    private static final int[] SWAP = {1, 0, 2};
    private static final int[] EIGHT = {1, 2, 3, 4, 5, 6, 7, 0};

    private EdgeFound() {
    }

    /** Brother and sister who wed: no class fits, as no class weds itself. */
    private static SectionHouse misfits(SectionHouse x) {
        Due.people(x, "001");
        x.parents(1, 0, -1);
        x.parents(2, 0, -1);
        x.wed(2, 1);
        return x;
    }

    // ---- promise 30: tells

    static void promise30NoSuchPerson(Due due) {
        SectionHouse x = Due.people(Due.sections(), "01");
        for (int what = 0; what < 5; what++) {
            due.is("tells(2, " + what + ")", x.tells(2, what), -2);
            due.is("tells(-1, " + what + ")", x.tells(-1, what), -2);
            due.is("tells(24, " + what + ")", x.tells(24, what), -2);
        }
        for (int p : Due.FAR) {
            due.is("tells(" + p + ", 0)", x.tells(p, 0), -2);
            due.is("tells(" + p + ", 4)", x.tells(p, 4), -2);
        }
    }

    static void promise30AnotherWhat(Due due) {
        SectionHouse x = Due.people(Due.sections(), "01");
        due.is("tells(0, 5)", x.tells(0, 5), -2);
        due.is("tells(0, -1)", x.tells(0, -1), -2);
        for (int what : Due.FAR) {
            due.is("tells(0, " + what + ")", x.tells(0, what), -2);
        }
    }

    static void promise30NoParentsAreNoneNotNoSuch(Due due) {
        SectionHouse x = Due.people(new SectionHouse(), "01");
        due.is("tells(0, 1)", x.tells(0, 1), -1);
        due.is("tells(0, 2)", x.tells(0, 2), -1);
    }

    static void promise30ParentsByTheView(Due due) {
        SectionHouse x = Due.people(new SectionHouse(), "010");
        x.day(5);
        x.parents(2, 0, 1);
        x.view(4);
        due.is("mother, the day ahead", x.tells(2, 1), -1);
        due.is("father, the day ahead", x.tells(2, 2), -1);
        due.is("the least, the day ahead", x.tells(2, 3), 2);
        x.view(5);
        due.is("mother, that day", x.tells(2, 1), 0);
        due.is("father, that day", x.tells(2, 2), 1);
        due.is("the least, that day", x.tells(2, 3), 0);
    }

    static void promise30SexWhateverTheView(Due due) {
        SectionHouse x = new SectionHouse();
        x.day(5);
        x.person(1);
        x.view(0);
        due.is("tells(0, 0)", x.tells(0, 0), 1);
    }

    static void promise30AFamilyOfOne(Due due) {
        SectionHouse x = Due.people(Due.sections(), "01");
        due.is("tells(1, 3)", x.tells(1, 3), 1);
        due.is("tells(1, 4)", x.tells(1, 4), 15);
    }

    static void promise30AFamilyOf24(Due due) {
        SectionHouse x = Due.people(Due.house(EIGHT, EIGHT), Due.times("1", 24));
        for (int p = 1; p < 24; p++) {
            x.parents(p, -1, p - 1);
        }
        due.is("tells(23, 3)", x.tells(23, 3), 0);
        due.is("count(8)", x.count(8), 1);
        due.is("tells(23, 4)", x.tells(23, 4), 255);
        x.tell(0, 0);
        // 23 generations on from class 0
        due.is("tells(23, 4), 0 told", x.tells(23, 4), 1 << 7);
        due.is("tells(1, 4), 0 told", x.tells(1, 4), 2);
    }

    static void promise30AFamilyThatHangsTogetherByItsLastOnes(Due due) {
        // 0 by 22 and 1 by 21 share the one grandchild 23
        SectionHouse x = Due.people(Due.sections(), Due.times("01", 12));
        x.parents(22, 0, -1);
        x.parents(21, -1, 1);
        due.is("families", x.count(8), 22);
        due.is("tells(21, 3)", x.tells(21, 3), 1);
        x.parents(23, 22, 21);
        due.is("families then", x.count(8), 20);
        due.is("tells(21, 3) then", x.tells(21, 3), 0);
        due.is("tells(1, 3) then", x.tells(1, 3), 0);
    }

    static void promise30FamiliesByWeddingsAlone(Due due) {
        SectionHouse x = Due.people(Due.sections(), "0101");
        x.wed(3, 2);
        due.is("tells(3, 3)", x.tells(3, 3), 2);
        x.wed(1, 2);
        due.is("tells(3, 3) by a second man", x.tells(3, 3), 1);
    }

    static void promise30TellingsDoNotMakeFamilies(Due due) {
        SectionHouse x = Due.people(Due.sections(), "00");
        x.tell(0, 1);
        x.tell(1, 1);
        due.is("tells(1, 3)", x.tells(1, 3), 1);
    }

    static void promise30NoClassesWithoutASystem(Due due) {
        SectionHouse x = Due.people(new SectionHouse(), "01");
        x.tell(0, 0);
        x.wed(1, 0);
        due.is("tells(0, 4)", x.tells(0, 4), 0);
        due.is("tells(1, 3) is told all the same", x.tells(1, 3), 0);
    }

    static void promise30AllClassesOfEachNumber(Due due) {
        for (int n = 2; n <= 8; n++) {
            int[] wives = new int[n];
            for (int i = 0; i < n; i++) {
                wives[i] = (i + 1) % n;
            }
            SectionHouse x = Due.people(Due.house(wives, wives), "1");
            due.is("tells(0, 4) of " + n, x.tells(0, 4), (1 << n) - 1);
            x.tell(0, n - 1);
            due.is("tells(0, 4) of the last of " + n, x.tells(0, 4), 1 << n - 1);
        }
    }

    static void promise30EightClassesOfPersonsSideBySide(Due due) {
        SectionHouse x = Due.people(Due.house(EIGHT, EIGHT), "111");
        for (int p = 0; p < 3; p++) {
            due.is("tells(" + p + ", 4)", x.tells(p, 4), 255);
        }
        x.tell(1, 3);
        due.is("the one ahead", x.tells(0, 4), 255);
        due.is("the one told of", x.tells(1, 4), 8);
        due.is("the one behind", x.tells(2, 4), 255);
    }

    static void promise30EightClassesOfFamiliesThatInterleave(Due due) {
        // 0 is the father of 3, whose wife is 2; 1 is the father of 4
        SectionHouse x = Due.people(Due.house(EIGHT, EIGHT), "11011");
        x.parents(3, -1, 0);
        x.parents(4, -1, 1);
        x.wed(3, 2);
        for (int kind : new int[] {0, 7}) {
            x.image(0);
            x.tell(0, kind);
            due.is("0 of " + kind, x.tells(0, 4), 1 << kind);
            due.is("1", x.tells(1, 4), 255);
            due.is("2", x.tells(2, 4), 1 << (kind + 2) % 8);
            due.is("3", x.tells(3, 4), 1 << (kind + 1) % 8);
            due.is("4", x.tells(4, 4), 255);
            x.again(0);
        }
    }

    static void promise30NoClassByAQuarrel(Due due) {
        SectionHouse x = Due.people(Due.sections(), "010");
        x.wed(1, 0);
        x.tell(0, 1);
        x.tell(1, 1);
        due.is("tells(0, 4)", x.tells(0, 4), 0);
        due.is("tells(1, 4)", x.tells(1, 4), 0);
        due.is("tells(2, 4) of another family", x.tells(2, 4), 15);
    }

    static void promise30NoClassFits(Due due) {
        SectionHouse x = misfits(Due.sections());
        for (int p = 0; p < 3; p++) {
            due.is("tells(" + p + ", 4)", x.tells(p, 4), 0);
        }
    }

    static void promise30FitsWithoutTellingsByOneClassAlone(Due due) {
        // he weds his daughter: C and W lead to one class from 0 alone
        SectionHouse x = Due.people(Due.house(ROUND, SWAP), "10");
        x.parents(1, -1, 0);
        due.is("tells(0, 4)", x.tells(0, 4), 7);
        x.wed(0, 1);
        due.is("tells(0, 4), wed", x.tells(0, 4), 1);
        due.is("tells(1, 4), wed", x.tells(1, 4), 2);
    }

    static void promise30EachParentCounts(Due due) {
        // a mother of 1 has children of C of 0, which is 1: so a father of 0 fits, and no other
        SectionHouse x = Due.people(Due.house(ROUND, SWAP), "010");
        x.parents(2, 0, 1);
        x.tell(0, 1);
        due.is("by the mother: the child", x.tells(2, 4), 2);
        due.is("by the mother: the father", x.tells(1, 4), 1);
        x.tell(1, 1);
        due.is("by both: the child", x.tells(2, 4), 0);
    }

    static void promise30FoundOutFromAFatherByAChild(Due due) {
        // he is the least one: she is found by their child alone
        SectionHouse x = Due.people(Due.house(ROUND, SWAP), "100");
        x.parents(2, 1, 0);
        due.is("tells(1, 3)", x.tells(1, 3), 0);
        x.tell(0, 1);
        due.is("the child", x.tells(2, 4), 1);
        due.is("the mother", x.tells(1, 4), 4);
    }

    static void promise30ADaughterWhoIsTheMotherOfHerFathersChild(Due due) {
        // C of his must be W of his, which it is of class 0 alone
        SectionHouse x = Due.people(Due.house(ROUND, SWAP), "100");
        x.parents(1, -1, 0);
        x.parents(2, 1, 0);
        due.is("he", x.tells(0, 4), 1);
        due.is("she", x.tells(1, 4), 2);
        due.is("their child", x.tells(2, 4), 2);
        Due.system(x, Due.SECTIONS);
        due.is("he by sections, where none fits", x.tells(0, 4), 0);
        due.is("wrongs()", x.wrongs(), -1);
    }

    static void promise30ASonWhoIsTheFatherOfHisMothersChild(Due due) {
        // his class must be that of his children, which 2 is alone: so she is of 0, wed to men of 2
        SectionHouse x = Due.people(Due.house(ROUND, SWAP), "010");
        x.parents(1, 0, -1);
        x.parents(2, 0, 1);
        due.is("she", x.tells(0, 4), 1);
        due.is("he", x.tells(1, 4), 4);
        due.is("their child", x.tells(2, 4), 4);
        Due.system(x, Due.SECTIONS);
        due.is("she by sections, where none fits", x.tells(0, 4), 0);
    }

    static void promise30AFamilyThatTheViewParts(Due due) {
        SectionHouse x = Due.people(Due.sections(), "01");
        x.tell(1, 0);
        x.day(1);
        x.wed(1, 0);
        due.is("she, wed", x.tells(0, 4), 2);
        due.is("he, wed", x.tells(1, 4), 1);
        x.view(0);
        due.is("she, the day ahead", x.tells(0, 4), 15);
        due.is("he, the day ahead", x.tells(1, 4), 1);
        due.is("his least one, the day ahead", x.tells(1, 3), 1);
        x.view(1);
        due.is("she, that day", x.tells(0, 4), 2);
    }

    static void promise30BySystemsOfNow(Due due) {
        SectionHouse x = Due.people(Due.sections(), "01");
        x.wed(1, 0);
        x.tell(1, 1);
        due.is("tells(0, 4) by sections", x.tells(0, 4), 1);
        Due.system(x, Due.systemText(ROUND, STILL));
        due.is("tells(0, 4) by a round", x.tells(0, 4), 4);
    }

    // ---- promise 31: told

    static void promise31NoSuchTelling(Due due) {
        SectionHouse x = Due.people(new SectionHouse(), "01");
        for (int what = 0; what < 3; what++) {
            due.is("told(0, " + what + ") of none", x.told(0, what), -2);
        }
        x.tell(1, 3);
        due.is("told(0, 0)", x.told(0, 0), 1);
        for (int what = 0; what < 3; what++) {
            due.is("told(1, " + what + ")", x.told(1, what), -2);
            due.is("told(-1, " + what + ")", x.told(-1, what), -2);
        }
        for (int k : Due.FAR) {
            due.is("told(" + k + ", 0)", x.told(k, 0), -2);
        }
    }

    static void promise31AnotherWhat(Due due) {
        SectionHouse x = Due.people(new SectionHouse(), "01");
        x.tell(1, 3);
        due.is("told(0, 3)", x.told(0, 3), -2);
        due.is("told(0, -1)", x.told(0, -1), -2);
        for (int what : Due.FAR) {
            due.is("told(0, " + what + ")", x.told(0, what), -2);
        }
    }

    static void promise31WhateverTheView(Due due) {
        SectionHouse x = Due.people(new SectionHouse(), "01");
        x.day(9);
        x.tell(1, 3);
        x.view(0);
        due.is("told(0, 0)", x.told(0, 0), 1);
        due.is("told(0, 1)", x.told(0, 1), 3);
        due.is("told(0, 2)", x.told(0, 2), 9);
    }

    static void promise31TheFirstAndThe60th(Due due) {
        SectionHouse x = Due.people(new SectionHouse(), Due.times("1", 24));
        for (int k = 0; k < 60; k++) {
            x.day(k == 0 ? 0 : 940 + k);
            x.tell(k == 0 ? 0 : 23, k == 0 ? 0 : 7);
        }
        due.is("told(0, 0)", x.told(0, 0), 0);
        due.is("told(0, 1)", x.told(0, 1), 0);
        due.is("told(0, 2)", x.told(0, 2), 0);
        due.is("told(59, 0)", x.told(59, 0), 23);
        due.is("told(59, 1)", x.told(59, 1), 7);
        due.is("told(59, 2)", x.told(59, 2), 999);
        due.is("told(60, 0)", x.told(60, 0), -2);
    }

    // ---- promise 32: quarrel

    static void promise32NoSystem(Due due) {
        SectionHouse x = Due.people(new SectionHouse(), "0");
        x.tell(0, 0);
        x.tell(0, 1);
        due.is("quarrel(0)", x.quarrel(0), -1);
    }

    static void promise32NoPersonsAndNoQuarrels(Due due) {
        due.is("quarrel(0) without persons", Due.sections().quarrel(0), -1);
        due.is("quarrel(0) of a person", Due.people(Due.sections(), "0").quarrel(0), -1);
    }

    static void promise32FirstLastAndOneMore(Due due) {
        SectionHouse x = Due.people(Due.sections(), "0000");
        for (int p : new int[] {3, 1}) {
            x.tell(p, 0);
            x.tell(p, 1);
        }
        due.is("quarrel(0)", x.quarrel(0), 1);
        due.is("quarrel(1)", x.quarrel(1), 3);
        due.is("quarrel(2)", x.quarrel(2), -1);
        due.is("quarrel(-1)", x.quarrel(-1), -1);
        for (int k : Due.FAR) {
            due.is("quarrel(" + k + ")", x.quarrel(k), -1);
        }
    }

    static void promise32TwentyFourQuarrels(Due due) {
        SectionHouse x = Due.people(Due.sections(), Due.times("0", 24));
        for (int p = 0; p < 24; p++) {
            x.tell(p, 7);
        }
        for (int p = 0; p < 24; p++) {
            due.is("quarrel(" + p + ")", x.quarrel(p), p);
        }
        due.is("quarrel(24)", x.quarrel(24), -1);
    }

    static void promise32AFamilyOnceByItsLeastOne(Due due) {
        SectionHouse x = Due.people(Due.sections(), "0101");
        x.wed(3, 2);
        x.wed(1, 2);
        x.tell(3, 0);
        x.tell(3, 1);
        x.tell(2, 3);
        due.is("quarrel(0)", x.quarrel(0), 1);
        due.is("quarrel(1)", x.quarrel(1), -1);
    }

    static void promise32AFamilyThatFitsWithNoClass(Due due) {
        due.is("quarrel(0)", misfits(Due.sections()).quarrel(0), 0);
    }

    static void promise32ByTheView(Due due) {
        SectionHouse x = Due.people(Due.sections(), "0");
        x.tell(0, 0);
        x.day(1);
        x.tell(0, 1);
        due.is("quarrel(0)", x.quarrel(0), 0);
        x.view(0);
        due.is("quarrel(0), the day ahead", x.quarrel(0), -1);
    }

    // ---- promise 33: wrongs

    static void promise33NoSystem(Due due) {
        SectionHouse x = new SectionHouse();
        due.is("wrongs() of nobody", x.wrongs(), -1);
        Due.people(x, "0");
        x.tell(0, 0);
        due.is("wrongs()", x.wrongs(), -1);
    }

    static void promise33NothingTold(Due due) {
        due.is("wrongs() of nobody", Due.sections().wrongs(), 0);
        due.is("wrongs() of nothing told", Due.people(Due.sections(), "01").wrongs(), 0);
    }

    static void promise33AFamilyFitsWithNoClass(Due due) {
        SectionHouse x = misfits(Due.sections());
        due.is("wrongs()", x.wrongs(), -1);
        SectionHouse y = Due.people(Due.sections(), "0");
        y.tell(0, 0);
        y.tell(0, 1);
        due.is("one is wrong", y.wrongs(), 1);
        Due.people(y, "001");
        y.parents(2, 1, -1);
        y.parents(3, 1, -1);
        y.wed(3, 2);
        due.is("wrongs(), as another family fits with none", y.wrongs(), -1);
    }

    static void promise33AMisfitThatIsNotSeen(Due due) {
        SectionHouse x = Due.people(Due.sections(), "001");
        x.parents(1, 0, -1);
        x.parents(2, 0, -1);
        x.day(1);
        x.wed(2, 1);
        due.is("wrongs()", x.wrongs(), -1);
        x.view(0);
        due.is("wrongs() the day ahead", x.wrongs(), 0);
    }

    static void promise33AllSixty(Due due) {
        SectionHouse x = Due.people(Due.sections(), "0");
        for (int k = 0; k < 60; k++) {
            x.tell(0, 7);
        }
        due.is("wrongs()", x.wrongs(), 60);
    }

    static void promise33TheFewest(Due due) {
        SectionHouse x = Due.people(Due.sections(), "0");
        for (int kind : new int[] {0, 3, 3, 1, 3, 2}) {
            x.tell(0, kind);
        }
        due.is("wrongs()", x.wrongs(), 3);
    }

    static void promise33FewerAndFewerClassByClass(Due due) {
        SectionHouse x = Due.people(Due.sections(), "000");
        for (int p = 0; p < 3; p++) {
            for (int kind : new int[] {1, 2, 2, 3, 3, 3}) {
                x.tell(p, kind);
            }
        }
        due.is("wrongs()", x.wrongs(), 9);
        for (int k = 0; k < 9; k++) {
            due.is("wrong(" + k + ")", x.wrong(k), k / 3 * 6 + k % 3);
        }
    }

    static void promise33OfAllFamilies(Due due) {
        SectionHouse x = Due.people(Due.sections(), "000");
        for (int p = 0; p < 3; p++) {
            for (int k = 0; k <= p; k++) {
                x.tell(p, 7);
            }
        }
        due.is("wrongs()", x.wrongs(), 6);
    }

    static void promise33ByWhatFitsAlone(Due due) {
        // he weds his daughter, so he is of 0: one telling of 0 outdoes nothing, two of 2 are wrong all the same
        SectionHouse x = Due.people(Due.house(ROUND, SWAP), "10");
        x.parents(1, -1, 0);
        x.tell(0, 2);
        x.tell(0, 2);
        due.is("wrongs()", x.wrongs(), 0);
        x.wed(0, 1);
        due.is("wrongs() of one that fits with 0 alone", x.wrongs(), 2);
    }

    // ---- promise 34: wrong

    static void promise34FirstLastAndOneMore(Due due) {
        SectionHouse x = Due.people(Due.sections(), "00");
        for (int kind : new int[] {7, 3, 7, 3, 7}) {
            x.tell(0, kind);
        }
        due.is("wrong(0)", x.wrong(0), 0);
        due.is("wrong(1)", x.wrong(1), 2);
        due.is("wrong(2)", x.wrong(2), 4);
        due.is("wrong(3)", x.wrong(3), -1);
        due.is("wrong(-1)", x.wrong(-1), -1);
        for (int k : Due.FAR) {
            due.is("wrong(" + k + ")", x.wrong(k), -1);
        }
    }

    static void promise34NoneIsWrong(Due due) {
        due.is("wrong(0) of nobody", Due.sections().wrong(0), -1);
        SectionHouse x = Due.people(Due.sections(), "0");
        x.tell(0, 3);
        due.is("wrong(0)", x.wrong(0), -1);
    }

    static void promise34NoSystem(Due due) {
        SectionHouse x = Due.people(new SectionHouse(), "0");
        x.tell(0, 0);
        x.tell(0, 1);
        due.is("wrong(0)", x.wrong(0), -1);
    }

    static void promise34AFamilyFitsWithNoClass(Due due) {
        SectionHouse x = misfits(Due.sections());
        x.person(0);
        x.tell(3, 0);
        x.tell(3, 1);
        due.is("wrong(0)", x.wrong(0), -1);
    }

    static void promise34TheLeastClassOfTheLeastOneStands(Due due) {
        SectionHouse x = Due.people(Due.sections(), "0");
        x.tell(0, 3);
        x.tell(0, 1);
        x.tell(0, 2);
        due.is("wrongs()", x.wrongs(), 2);
        due.is("wrong(0)", x.wrong(0), 0);
        due.is("wrong(1)", x.wrong(1), 2);
    }

    static void promise34TheLeastOneNotTheOneToldOf(Due due) {
        // her man is told to be of 0 and of 1: by these she is of 1 and of 0, so 0 of hers stands
        SectionHouse x = Due.people(Due.sections(), "01");
        x.wed(1, 0);
        x.tell(1, 0);
        x.tell(1, 1);
        due.is("wrong(0)", x.wrong(0), 0);
        due.is("wrong(1)", x.wrong(1), -1);
    }

    static void promise34AllSixty(Due due) {
        SectionHouse x = Due.people(Due.sections(), "0");
        for (int k = 0; k < 60; k++) {
            x.tell(0, 7);
        }
        for (int k = 0; k < 60; k++) {
            due.is("wrong(" + k + ")", x.wrong(k), k);
        }
        due.is("wrong(60)", x.wrong(60), -1);
    }

    static void promise34OfSeveralFamiliesInTheOrderOfTellings(Due due) {
        SectionHouse x = Due.people(Due.sections(), "000");
        x.tell(2, 7);
        x.tell(0, 7);
        x.tell(1, 7);
        for (int k = 0; k < 3; k++) {
            due.is("wrong(" + k + ")", x.wrong(k), k);
        }
    }

    static void promise34ByTheView(Due due) {
        SectionHouse x = Due.people(Due.sections(), "0");
        x.tell(0, 3);
        x.day(1);
        x.tell(0, 1);
        due.is("wrong(0)", x.wrong(0), 0);
        x.view(0);
        due.is("wrong(0), the day ahead", x.wrong(0), -1);
    }

    // ---- promise 35: may

    static void promise35NoSystem(Due due) {
        due.is("may(1, 0)", Due.people(new SectionHouse(), "01").may(1, 0), -1);
    }

    static void promise35NoSuchMan(Due due) {
        SectionHouse x = Due.people(Due.sections(), "01");
        due.is("may(1, 0)", x.may(1, 0), 1);
        due.is("may(0, 0)", x.may(0, 0), -1);
        due.is("may(2, 0)", x.may(2, 0), -1);
        due.is("may(-1, 0)", x.may(-1, 0), -1);
        for (int p : Due.FAR) {
            due.is("may(" + p + ", 0)", x.may(p, 0), -1);
        }
    }

    static void promise35NoSuchWoman(Due due) {
        SectionHouse x = Due.people(Due.sections(), "01");
        due.is("may(1, 1)", x.may(1, 1), -1);
        due.is("may(1, 2)", x.may(1, 2), -1);
        due.is("may(1, -1)", x.may(1, -1), -1);
        for (int p : Due.FAR) {
            due.is("may(1, " + p + ")", x.may(1, p), -1);
        }
    }

    static void promise35OfAQuarrel(Due due) {
        SectionHouse x = Due.people(Due.sections(), "0101");
        x.tell(0, 7);
        due.is("she", x.may(1, 0), -1);
        due.is("neither", x.may(1, 2), 1);
        x.tell(3, 7);
        due.is("he", x.may(3, 2), -1);
        due.is("both", x.may(3, 0), -1);
        due.is("both of one family", misfits(Due.sections()).may(2, 1), -1);
    }

    static void promise35ByAll(Due due) {
        SectionHouse x = Due.people(Due.sections(), "01");
        x.tell(1, 3);
        x.tell(0, 2);
        due.is("may(1, 0)", x.may(1, 0), 2);
    }

    static void promise35ByNone(Due due) {
        SectionHouse x = Due.people(Due.sections(), "01");
        x.tell(1, 3);
        x.tell(0, 3);
        due.is("may(1, 0)", x.may(1, 0), 0);
    }

    static void promise35BySome(Due due) {
        SectionHouse x = Due.people(Due.sections(), "01");
        due.is("nothing told", x.may(1, 0), 1);
        x.tell(1, 3);
        due.is("his class told", x.may(1, 0), 1);
    }

    static void promise35OfOneFamilyThoseThatGoTogether(Due due) {
        SectionHouse x = Due.people(Due.sections(), "01");
        x.wed(1, 0);
        due.is("wed, nothing told", x.may(1, 0), 2);
        // brother and sister never
        SectionHouse y = Due.people(Due.sections(), "001");
        y.parents(1, 0, -1);
        y.parents(2, 0, -1);
        due.is("brother and sister", y.may(2, 1), 0);
        // a father and his daughter by class 0 alone
        SectionHouse z = Due.people(Due.house(ROUND, SWAP), "10");
        z.parents(1, -1, 0);
        due.is("father and daughter", z.may(0, 1), 1);
    }

    static void promise35OneFamilyByTheViewAlone(Due due) {
        SectionHouse x = Due.people(Due.sections(), "01");
        x.day(1);
        x.wed(1, 0);
        due.is("wed", x.may(1, 0), 2);
        x.view(0);
        due.is("not wed yet", x.may(1, 0), 1);
    }

    static void promise35SheIsOfWOfHisNotHeOfHers(Due due) {
        SectionHouse x = Due.people(Due.house(ROUND, STILL), "01");
        x.tell(1, 0);
        x.tell(0, 1);
        due.is("she of 1, he of 0", x.may(1, 0), 2);
        SectionHouse y = Due.people(Due.house(ROUND, STILL), "01");
        y.tell(1, 1);
        y.tell(0, 0);
        due.is("she of 0, he of 1", y.may(1, 0), 0);
    }

    // ---- promise 36: count

    static void promise36AnotherWhat(Due due) {
        SectionHouse x = Due.people(Due.sections(), "01");
        due.is("count(10)", x.count(10), -2);
        due.is("count(-1)", x.count(-1), -2);
        for (int what : Due.FAR) {
            due.is("count(" + what + ")", x.count(what), -2);
        }
    }

    static void promise36NoClassesWithoutASystem(Due due) {
        SectionHouse x = new SectionHouse();
        due.is("count(0)", x.count(0), 0);
        Due.system(x, "classes 9;");
        due.is("count(0) behind a fault", x.count(0), 0);
        Due.system(x, Due.TWO);
        due.is("count(0) with a system", x.count(0), 2);
    }

    static void promise36AllAtTheirMost(Due due) {
        SectionHouse x = Due.people(Due.house(EIGHT, EIGHT), Due.times("0", 12) + Due.times("1", 12));
        Due.law(x, Due.times("bar z;", 16));
        for (int k = 0; k < 8; k++) {
            Due.word(x, "f", 1);
        }
        for (int i = 0; i < 24; i++) {
            x.wed(12 + i / 12, i % 12);
        }
        for (int k = 0; k < 60; k++) {
            x.tell(0, 0);
        }
        x.day(999);
        x.view(999);
        int[] wants = {8, 16, 8, 24, 24, 60, 999, 999, 11, 60};
        for (int what = 0; what < 10; what++) {
            due.is("count(" + what + ")", x.count(what), wants[what]);
        }
    }

    static void promise36WeddingsAndTellingsInAll(Due due) {
        SectionHouse x = Due.people(new SectionHouse(), "01");
        x.day(5);
        x.wed(1, 0);
        x.tell(0, 0);
        x.view(4);
        due.is("count(4)", x.count(4), 1);
        due.is("count(5)", x.count(5), 1);
        due.is("count(8) by the view", x.count(8), 2);
        due.is("count(9) by the view", x.count(9), 0);
        x.view(5);
        due.is("count(8) that day", x.count(8), 1);
        due.is("count(9) that day", x.count(9), 1);
    }

    static void promise36TheViewIsNoneOrADay(Due due) {
        SectionHouse x = new SectionHouse();
        due.is("count(7)", x.count(7), -1);
        x.view(0);
        due.is("count(7) of day 0", x.count(7), 0);
    }

    static void promise36FamiliesWithoutASystem(Due due) {
        SectionHouse x = Due.people(new SectionHouse(), "01");
        due.is("count(8)", x.count(8), 2);
        x.wed(1, 0);
        due.is("count(8) of a pair", x.count(8), 1);
    }
}
