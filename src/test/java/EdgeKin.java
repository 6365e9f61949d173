/** Boundary cases of promises 12 to 16: where kin words lead, the shortest of each meaning, and brides. */
final class EdgeKin {
    private static final String LETTERS = "fmsdbzhw";
    private static final int[] ROUND = {1, 2, 0};
    private static final int[] STILL = {0, 1, 2};
    /** 720 turns, so they are many. */
    private static final int[] SIX = {1, 2, 3, 4, 5, 0};
    private static final int[] SWAP = {1, 0, 2, 3, 4, 5};

    private EdgeKin() {
    }

    private static SectionHouse many(String word, int sex) {
        SectionHouse x = Due.house(SIX, SWAP);
        Due.word(x, word, sex);
        return x;
    }

    private static SectionHouse with(SectionHouse x, String word, int sex) {
        Due.word(x, word, sex);
        return x;
    }

    private static void shortest(Due due, SectionHouse x, String want) {
        due.is("about(0, 4)", x.about(0, 4), want.length());
        for (int i = 0; i < want.length(); i++) {
            due.is("letter(0, " + i + ")", x.letter(0, i), LETTERS.indexOf(want.charAt(i)));
        }
        due.is("letter(0, " + want.length() + ")", x.letter(0, want.length()), -1);
    }

    // ---- promise 12: leads

    static void promise12NoSuchKinWord(Due due) {
        SectionHouse x = with(Due.sections(), "f", 1);
        due.is("leads(0, 0)", x.leads(0, 0), 2);
        due.is("leads(1, 0)", x.leads(1, 0), -1);
        due.is("leads(-1, 0)", x.leads(-1, 0), -1);
        for (int k : Due.FAR) {
            due.is("leads(" + k + ", 0)", x.leads(k, 0), -1);
        }
    }

    static void promise12TheEighthKinWord(Due due) {
        SectionHouse x = Due.sections();
        for (int k = 0; k < 8; k++) {
            Due.word(x, k == 7 ? "w" : "f", 1);
        }
        due.is("leads(7, 3)", x.leads(7, 3), 2);
        due.is("leads(8, 3)", x.leads(8, 3), -1);
    }

    static void promise12NoSuchClass(Due due) {
        SectionHouse x = with(Due.sections(), "f", 1);
        due.is("leads(0, 3)", x.leads(0, 3), 1);
        due.is("leads(0, 4)", x.leads(0, 4), -1);
        due.is("leads(0, -1)", x.leads(0, -1), -1);
        for (int kind : Due.FAR) {
            due.is("leads(0, " + kind + ")", x.leads(0, kind), -1);
        }
    }

    static void promise12NeitherOfThem(Due due) {
        due.is("leads(1, 4)", with(Due.sections(), "f", 1).leads(1, 4), -1);
    }

    static void promise12NoSystem(Due due) {
        SectionHouse x = with(new SectionHouse(), "b", 1);
        due.is("leads(0, 0)", x.leads(0, 0), -1);
        due.is("leads(0, -1)", x.leads(0, -1), -1);
    }

    static void promise12ByAnotherSystem(Due due) {
        SectionHouse x = with(Due.sections(), "w", 1);
        due.is("leads(0, 3)", x.leads(0, 3), 2);
        Due.system(x, Due.TWO);
        due.is("leads(0, 1) of two", x.leads(0, 1), 0);
        due.is("leads(0, 2) of two", x.leads(0, 2), -1);
    }

    static void promise12ManyTurnsLeadAllTheSame(Due due) {
        due.is("leads(0, 5)", many("w", 1).leads(0, 5), 0);
    }

    static void promise12EightSteps(Due due) {
        // each w h goes there and back, each s one on
        SectionHouse x = with(Due.house(ROUND, ROUND), "ssssssss", 1);
        due.is("leads(0, 0)", x.leads(0, 0), 2);
        SectionHouse y = with(Due.house(ROUND, STILL), "whwhwhws", 1);
        due.is("there and back, and her son", y.leads(0, 0), 0);
    }

    static void promise12OnesOwnClassByBrothersAndSisters(Due due) {
        SectionHouse x = with(Due.house(ROUND, ROUND), "bzbzbzbz", 0);
        for (int kind = 0; kind < 3; kind++) {
            due.is("leads(0, " + kind + ")", x.leads(0, kind), kind);
        }
    }

    // ---- promise 13: about

    static void promise13NoSuchKinWord(Due due) {
        SectionHouse x = with(Due.sections(), "f", 1);
        for (int what = 0; what < 5; what++) {
            due.is("about(1, " + what + ")", x.about(1, what), -1);
            due.is("about(-1, " + what + ")", x.about(-1, what), -1);
            due.is("about(8, " + what + ")", x.about(8, what), -1);
        }
        for (int k : Due.FAR) {
            due.is("about(" + k + ", 0)", x.about(k, 0), -1);
        }
    }

    static void promise13AnotherWhat(Due due) {
        SectionHouse x = with(Due.sections(), "f", 1);
        due.is("about(0, 5)", x.about(0, 5), -1);
        due.is("about(0, -1)", x.about(0, -1), -1);
        for (int what : Due.FAR) {
            due.is("about(0, " + what + ")", x.about(0, what), -1);
        }
    }

    static void promise13WithoutASystem(Due due) {
        SectionHouse x = with(new SectionHouse(), "hf", 0);
        due.is("about(0, 0)", x.about(0, 0), 1);
        due.is("about(0, 1)", x.about(0, 1), 0);
        due.is("about(0, 2)", x.about(0, 2), 2);
        due.is("about(0, 3)", x.about(0, 3), -1);
        due.is("about(0, 4)", x.about(0, 4), -1);
    }

    static void promise13ManyTurns(Due due) {
        SectionHouse x = many("w", 1);
        due.is("about(0, 0)", x.about(0, 0), 0);
        due.is("about(0, 2)", x.about(0, 2), 1);
        due.is("about(0, 3)", x.about(0, 3), 6);
        due.is("about(0, 4)", x.about(0, 4), -1);
    }

    static void promise13EachLetterLeadsToItsSex(Due due) {
        for (int i = 0; i < 8; i++) {
            int sex = i == 6 ? 0 : 1;
            SectionHouse x = with(new SectionHouse(), LETTERS.substring(i, i + 1), sex);
            due.is("about(0, 0) of " + LETTERS.charAt(i), x.about(0, 0), i % 2 == 0 ? 1 : 0);
            due.is("about(0, 1) of " + LETTERS.charAt(i), x.about(0, 1), sex);
        }
    }

    static void promise13OneLetterAndEight(Due due) {
        due.is("about(0, 2) of one", with(new SectionHouse(), "f", 1).about(0, 2), 1);
        due.is("about(0, 2) of eight", with(new SectionHouse(), "ffffffff", 1).about(0, 2), 8);
    }

    static void promise13OfNoClassOfOneOfAll(Due due) {
        due.is("about(0, 3) of z", with(Due.sections(), "z", 1).about(0, 3), 0);
        due.is("about(0, 3) of w", with(Due.sections(), "w", 1).about(0, 3), 4);
        // a daughter of 0 is of 1, as is his wife
        due.is("about(0, 3) of d", with(Due.house(ROUND, new int[] {1, 0, 2}), "d", 1).about(0, 3), 1);
    }

    static void promise13BridesByWordsThatLeadToMenOrFromWomen(Due due) {
        due.is("wb leads to a man", with(Due.sections(), "wb", 1).about(0, 3), 4);
        due.is("h leads from a woman", with(Due.sections(), "h", 0).about(0, 3), 4);
    }

    static void promise13TheShortestOfNoLetters(Due due) {
        shortest(due, with(Due.sections(), "b", 1), "");
        shortest(due, with(Due.sections(), "z", 0), "");
        shortest(due, with(Due.sections(), "whwhwhwh", 1), "");
    }

    static void promise13TheShortestOfEightLetters(Due due) {
        int[] wives = {3, 0, 4, 2, 1};
        int[] children = {3, 2, 0, 4, 1};
        shortest(due, with(Due.house(wives, children), "fmbwbswb", 1), "fmbwbswb");
        shortest(due, with(Due.house(wives, children), "ffzhfzhz", 0), "ffzhfzhz");
    }

    static void promise13TheSexItLeadsToCounts(Due due) {
        // of his own class, but a woman: no row of no letters leads there
        shortest(due, with(Due.sections(), "z", 1), "z");
        shortest(due, with(Due.sections(), "b", 0), "b");
    }

    static void promise13TheLeastOfSeveral(Due due) {
        // where nothing turns, all men are alike, and all women: f and m are the least
        shortest(due, with(Due.house(STILL, STILL), "w", 1), "m");
        shortest(due, with(Due.house(STILL, STILL), "h", 0), "f");
        shortest(due, with(Due.house(STILL, STILL), "d", 1), "m");
        // by sections sons are as fathers, and daughters as fathers' sisters
        shortest(due, with(Due.sections(), "s", 1), "f");
        shortest(due, with(Due.sections(), "d", 1), "d");
        shortest(due, with(Due.sections(), "fz", 1), "d");
    }

    static void promise13ByAnotherSystem(Due due) {
        SectionHouse x = with(Due.sections(), "w", 1);
        shortest(due, x, "w");
        Due.system(x, Due.systemText(STILL, STILL));
        shortest(due, x, "m");
        SectionHouse y = with(Due.sections(), "h", 0);
        shortest(due, y, "h");
        Due.system(y, Due.systemText(STILL, STILL));
        shortest(due, y, "f");
    }

    static void promise13ByASystemWithAnotherWAlone(Due due) {
        SectionHouse x = with(Due.house(ROUND, STILL), "w", 1);
        shortest(due, x, "m");
        Due.system(x, Due.systemText(new int[] {2, 0, 1}, STILL));
        shortest(due, x, "m");
        Due.system(x, Due.systemText(new int[] {1, 0, 2}, STILL));
        shortest(due, x, "m");
        due.is("brides(2)", x.brides(2), 12);
    }

    static void promise13ByASystemWithAnotherCAlone(Due due) {
        SectionHouse x = with(Due.house(ROUND, STILL), "s", 1);
        shortest(due, x, "");
        Due.system(x, Due.systemText(ROUND, ROUND));
        shortest(due, x, "s");
        due.is("turnsOf()", x.turnsOf(), 3);
    }

    static void promise13The384TurnsThatAreNotMany(Due due) {
        int[] wives = {0, 1, 2, 3, 5, 4, 7, 6};
        int[] children = {1, 4, 3, 6, 0, 7, 2, 5};
        shortest(due, with(Due.house(wives, children), "mhmfmdmd", 1), "fmfz");
        shortest(due, with(Due.house(wives, children), "dmmfdmmm", 1), "dddd");
        shortest(due, with(Due.house(wives, children), "wfssmdmm", 1), "m");
        shortest(due, with(Due.house(wives, children), "smfsdssd", 0), "bdssd");
        shortest(due, with(Due.house(wives, children), "ddssddss", 0), "hfzdh");
        shortest(due, with(Due.house(wives, children), "fswfmssf", 0), "hf");
        // meanings that come late among the 768
        shortest(due, with(Due.house(wives, children), "ssfwhwmf", 1), "swmf");
        shortest(due, with(Due.house(wives, children), "wmfwfmfm", 1), "sdswm");
        shortest(due, with(Due.house(wives, children), "ssdsfmfw", 0), "ssswmm");
    }

    // ---- promise 14: letter

    static void promise14NoSuchKinWord(Due due) {
        SectionHouse x = with(Due.sections(), "w", 1);
        due.is("letter(0, 0)", x.letter(0, 0), 7);
        due.is("letter(1, 0)", x.letter(1, 0), -1);
        due.is("letter(-1, 0)", x.letter(-1, 0), -1);
        due.is("letter(8, 0)", x.letter(8, 0), -1);
        for (int k : Due.FAR) {
            due.is("letter(" + k + ", 0)", x.letter(k, 0), -1);
        }
    }

    static void promise14NoSuchLetter(Due due) {
        SectionHouse x = with(Due.sections(), "w", 1);
        due.is("letter(0, 1)", x.letter(0, 1), -1);
        due.is("letter(0, -1)", x.letter(0, -1), -1);
        due.is("letter(0, 8)", x.letter(0, 8), -1);
        for (int i : Due.FAR) {
            due.is("letter(0, " + i + ")", x.letter(0, i), -1);
        }
    }

    static void promise14LettersOfTheShortestNotOfTheWord(Due due) {
        SectionHouse x = with(Due.sections(), "mbd", 1);
        due.is("letter(0, 0)", x.letter(0, 0), 7);
        due.is("letter(0, 1)", x.letter(0, 1), -1);
    }

    static void promise14NoLetterOfTheShortestOfNone(Due due) {
        SectionHouse x = with(Due.sections(), "bb", 1);
        due.is("about(0, 4)", x.about(0, 4), 0);
        due.is("letter(0, 0)", x.letter(0, 0), -1);
    }

    static void promise14TheEighthLetterAndNoNinth(Due due) {
        SectionHouse x = with(Due.house(new int[] {3, 0, 4, 2, 1}, new int[] {3, 2, 0, 4, 1}), "fmbwbswb", 1);
        due.is("letter(0, 7)", x.letter(0, 7), 4);
        due.is("letter(0, 8)", x.letter(0, 8), -1);
    }

    static void promise14WithoutASystem(Due due) {
        due.is("letter(0, 0)", with(new SectionHouse(), "w", 1).letter(0, 0), -1);
    }

    static void promise14ManyTurns(Due due) {
        SectionHouse x = many("w", 1);
        due.is("letter(0, 0)", x.letter(0, 0), -1);
        Due.system(x, Due.SECTIONS);
        due.is("letter(0, 0), many no more", x.letter(0, 0), 7);
        Due.system(x, Due.systemText(SIX, SWAP));
        due.is("letter(0, 0), many again", x.letter(0, 0), -1);
    }

    // ---- promise 15: alike

    static void promise15NoSuchKinWords(Due due) {
        SectionHouse x = with(Due.sections(), "f", 1);
        due.is("alike(0, 0)", x.alike(0, 0), true);
        due.is("alike(0, 1)", x.alike(0, 1), false);
        due.is("alike(1, 0)", x.alike(1, 0), false);
        due.is("alike(-1, 0)", x.alike(-1, 0), false);
        due.is("alike(0, -1)", x.alike(0, -1), false);
        due.is("alike(-1, -1)", x.alike(-1, -1), false);
        due.is("alike(8, 8)", x.alike(8, 8), false);
        for (int k : Due.FAR) {
            due.is("alike(0, " + k + ")", x.alike(0, k), false);
            due.is("alike(" + k + ", 0)", x.alike(k, 0), false);
            due.is("alike(" + k + ", " + k + ")", x.alike(k, k), false);
        }
    }

    static void promise15NoneIsAlikeWhatNoWordMeans(Due due) {
        for (String word : new String[] {"w", "z", "m", "d", "b", "f"}) {
            for (int sex = 0; sex < 2; sex++) {
                SectionHouse x = with(Due.sections(), word, sex);
                due.is("alike(-1, 0), " + word, x.alike(-1, 0), false);
                due.is("alike(0, -1), " + word, x.alike(0, -1), false);
                due.is("alike(1, 0), " + word, x.alike(1, 0), false);
                due.is("alike(0, 1), " + word, x.alike(0, 1), false);
            }
        }
    }

    static void promise15NoSystem(Due due) {
        due.is("alike(0, 0)", with(new SectionHouse(), "f", 1).alike(0, 0), false);
    }

    static void promise15FromUnlikeSexes(Due due) {
        SectionHouse x = with(with(Due.sections(), "f", 1), "f", 0);
        due.is("leads are one", x.leads(0, 0) == x.leads(1, 0), true);
        due.is("alike(0, 1)", x.alike(0, 1), false);
        due.is("alike(1, 0)", x.alike(1, 0), false);
    }

    static void promise15ToUnlikeSexes(Due due) {
        SectionHouse x = with(with(Due.sections(), "b", 1), "z", 1);
        due.is("leads are one", x.leads(0, 0) == x.leads(1, 0), true);
        due.is("alike(0, 1)", x.alike(0, 1), false);
    }

    static void promise15UnlikeInFewClassesAlone(Due due) {
        SectionHouse x = with(with(Due.house(ROUND, new int[] {0, 2, 1}), "s", 1), "b", 1);
        due.is("class 0 is one", x.leads(0, 0) == x.leads(1, 0), true);
        due.is("alike(0, 1)", x.alike(0, 1), false);
        Due.system(x, Due.systemText(ROUND, new int[] {1, 0, 2}));
        due.is("class 2 is one", x.leads(0, 2) == x.leads(1, 2), true);
        due.is("alike(0, 1) then", x.alike(0, 1), false);
        Due.system(x, Due.systemText(ROUND, STILL));
        due.is("alike(0, 1) at last", x.alike(0, 1), true);
    }

    static void promise15ManyTurnsAllTheSame(Due due) {
        SectionHouse x = with(many("wh", 1), "b", 1);
        due.is("alike(0, 1)", x.alike(0, 1), true);
    }

    static void promise15TheEighthKinWord(Due due) {
        SectionHouse x = Due.sections();
        for (int k = 0; k < 8; k++) {
            Due.word(x, k == 0 || k == 7 ? "w" : "f", 1);
        }
        due.is("alike(0, 7)", x.alike(0, 7), true);
        due.is("alike(6, 7)", x.alike(6, 7), false);
        due.is("alike(7, 8)", x.alike(7, 8), false);
    }

    // ---- promise 16: brides

    static void promise16NoSystem(Due due) {
        SectionHouse x = new SectionHouse();
        for (int n = 0; n <= 7; n++) {
            due.is("brides(" + n + ")", x.brides(n), -1);
        }
    }

    static void promise16AnotherNumber(Due due) {
        SectionHouse x = Due.sections();
        due.is("brides(0)", x.brides(0), -1);
        due.is("brides(-1)", x.brides(-1), -1);
        due.is("brides(7)", x.brides(7), -1);
        due.is("brides(8)", x.brides(8), -1);
        for (int n : Due.FAR) {
            due.is("brides(" + n + ")", x.brides(n), -1);
        }
    }

    /** Where nothing turns, every word that leads to a woman weds: four of seven letters do from a man on. */
    static void promise16OneLetterAndSix(Due due) {
        SectionHouse x = Due.house(STILL, STILL);
        // a man has m d z w that lead to women, and f s b; a woman has m d z, and f s b h
        due.is("brides(1)", x.brides(1), 4);
        due.is("brides(2)", x.brides(2), 4 * 3 + 3 * 4);
        int toMen = 1;
        int toWomen = 0;
        for (int n = 1; n <= 6; n++) {
            int men = 3 * toMen + 4 * toWomen;
            toWomen = 4 * toMen + 3 * toWomen;
            toMen = men;
        }
        due.is("brides(6)", x.brides(6), toWomen);
    }

    static void promise16TheFewestOfOneLetter(Due due) {
        due.is("brides(1) by w alone", Due.sections().brides(1), 1);
        // where men wed their own class, z and w lead to brides
        due.is("brides(1) of one's own class", Due.house(STILL, ROUND).brides(1), 2);
    }

    /** Counted by trying every word. */
    static void promise16EachNumberOfLetters(Due due) {
        int[] sections = {1, 6, 43, 300, 2101, 14706};
        int[] round = {2, 10, 66, 434, 2938, 20154};
        int[] six = {1, 6, 39, 252, 1661, 11106};
        int[] most = {1, 4, 23, 128, 737, 4309};
        SectionHouse x = Due.sections();
        SectionHouse y = Due.house(ROUND, STILL);
        SectionHouse z = Due.house(ROUND, new int[] {1, 0, 2});
        SectionHouse v = Due.house(new int[] {0, 1, 2, 3, 5, 4, 7, 6}, new int[] {1, 4, 3, 6, 0, 7, 2, 5});
        for (int n = 1; n <= 6; n++) {
            due.is("brides(" + n + ") of sections", x.brides(n), sections[n - 1]);
            due.is("brides(" + n + ") of a round", y.brides(n), round[n - 1]);
            due.is("brides(" + n + ") of six turns", z.brides(n), six[n - 1]);
            due.is("brides(" + n + ") of 384 turns", v.brides(n), most[n - 1]);
        }
    }

    static void promise16ByAnotherSystem(Due due) {
        SectionHouse x = Due.house(ROUND, STILL);
        due.is("brides(2) of a round", x.brides(2), 10);
        Due.system(x, Due.systemText(ROUND, new int[] {1, 0, 2}));
        due.is("brides(2) by another C", x.brides(2), 6);
        Due.system(x, Due.systemText(STILL, new int[] {1, 0, 2}));
        due.is("brides(1) by another W", x.brides(1), 2);
    }

    static void promise16ManyTurns(Due due) {
        SectionHouse x = Due.house(SIX, SWAP);
        for (int n = 1; n <= 6; n++) {
            due.is("brides(" + n + ")", x.brides(n), -1);
        }
    }

    static void promise16WordsThatLeadToMenDoNotCount(Due due) {
        // w b and z b lead to the class of brides, but to men
        SectionHouse x = Due.house(STILL, ROUND);
        int women = 0;
        for (int code = 0; code < 64; code++) {
            SectionHouse y = Due.house(STILL, ROUND);
            String word = "" + LETTERS.charAt(code >> 3) + LETTERS.charAt(code & 7);
            boolean weds = Due.word(y, word, 1) == 0 && y.about(0, 0) == 0 && y.about(0, 3) == 3;
            women += weds ? 1 : 0;
        }
        due.is("brides(2)", x.brides(2), women);
    }
}
