/** Boundary cases of promise 4: a system's text, its faults and their order. */
final class EdgeSystemText {
    private static final String EIGHT = Due.systemText(new int[] {1, 2, 3, 4, 5, 6, 7, 0},
        new int[] {7, 6, 5, 4, 3, 2, 1, 0});
    private static final String TIES = "weds a b;weds b a;child a a;child b b;";

    private EdgeSystemText() {
    }

    // ---- how many classes

    static void promise04TwoClassesAreTheFewest(Due due) {
        due.system(Due.TWO, 2, 0, -1);
    }

    static void promise04OneClassIsTooFew(Due due) {
        due.system("classes 1;weds a a;child a a;", -1, 2, 8);
    }

    static void promise04NoClassIsTooFew(Due due) {
        due.system("classes 0;", -1, 2, 8);
        due.system("classes 0000;", -1, 2, 8);
    }

    static void promise04EightClassesAreTheMost(Due due) {
        due.system(EIGHT, 8, 0, -1);
    }

    static void promise04NineClassesAreTooMany(Due due) {
        due.system("classes 9" + EIGHT.substring(9), -1, 2, 8);
        due.system("classes 10;", -1, 2, 8);
    }

    static void promise04NumbersThatWrapToSmallOnes(Due due) {
        // 258 is 2 in a byte
        due.system("classes 258;" + TIES, -1, 2, 8);
        due.system("classes 9999;" + TIES, -1, 2, 8);
    }

    // ---- tokens

    static void promise04FourDigitsAreANumber(Due due) {
        due.system("classes 0002;" + TIES, 2, 0, -1);
        due.system("classes 9999;", -1, 2, 8);
    }

    static void promise04FiveDigitsAreNoToken(Due due) {
        due.system("classes 00002;" + TIES, -1, 1, 8);
        due.system("classes 2;" + TIES + "00002", -1, 1, 48);
    }

    static void promise04ALongRowOfDigitsDoesNotWrap(Due due) {
        // two to the 32nd, and two
        due.system("classes 4294967298;" + TIES, -1, 1, 8);
    }

    static void promise04NoNumber(Due due) {
        due.system("classes ;" + TIES, -1, 1, 8);
        due.system("classes a;" + TIES, -1, 1, 8);
    }

    static void promise04TwoNumbers(Due due) {
        due.system("classes 2 2;" + TIES, -1, 1, 10);
    }

    static void promise04BlanksStandAnywhereBetween(Due due) {
        due.system(" \nclasses \n 2 ;\n\nweds a  b ; weds\nb\na;child a a\n;child b b; \n", 2, 0, -1);
    }

    static void promise04NoBlankIsNeededWhereTokensEnd(Due due) {
        due.system("classes2;" + TIES, 2, 0, -1);
    }

    static void promise04WordsGoAsLongAsTheyCan(Due due) {
        due.system("classes 2;wedsa b;", -1, 1, 10);
        due.system("classes 2;weds ab;", -1, 1, 15);
        due.system("classesx 2;", -1, 1, 0);
        due.system("classe 2;", -1, 1, 0);
    }

    static void promise04NumbersGoAsLongAsTheyCan(Due due) {
        due.system("classes 2a;", -1, 1, 9);
        due.system("classes 28;", -1, 2, 8);
    }

    static void promise04BytesBesideTheBlanks(Due due) {
        for (int sign : new int[] {0, 9, 11, 13, 31, 33, 160}) {
            due.system("classes" + (char) sign + "2;" + TIES, -1, 1, 7);
        }
    }

    static void promise04BytesBesideTheDigits(Due due) {
        for (int sign : new int[] {'/', ':', '2' + 128}) {
            due.system("classes " + (char) sign + ";", -1, 1, 8);
        }
    }

    static void promise04BytesBesideTheMark(Due due) {
        for (int sign : new int[] {':', '<', ';' + 128}) {
            due.system("classes 2" + (char) sign + TIES, -1, 1, 9);
        }
    }

    static void promise04BytesBesideTheLetters(Due due) {
        for (int sign : new int[] {'`', '{', 'A', 'a' + 128, 255}) {
            due.system("classes 2;weds " + (char) sign + " b;", -1, 1, 15);
        }
    }

    static void promise04BytesBehindAWordOrANumberAreTheirOwn(Due due) {
        for (int sign : new int[] {'`', '{', 'A', 'a' + 128}) {
            due.system("classes" + (char) sign + "2;" + TIES, -1, 1, 7);
        }
        for (int sign : new int[] {'/', ':', '2' + 128}) {
            due.system("classes 2" + (char) sign + ";" + TIES, -1, 1, 9);
        }
    }

    static void promise04EveryLetterOfAWordCounts(Due due) {
        for (int i = 0; i < 7; i++) {
            StringBuilder word = new StringBuilder("classes");
            word.setCharAt(i, 'x');
            due.system(word + " 2;" + TIES, -1, 1, 0);
        }
        for (String word : new String[] {"xeds", "wxds", "wexs", "wedx", "xhild", "cxild", "chxld", "chixd", "chilx"}) {
            due.system("classes 2;" + word + " a b;", -1, 1, 10);
        }
    }

    // ---- fault 1: the first byte or token with which no text goes on

    static void promise04TheFirstOfSeveralFaults1(Due due) {
        due.system("weds a b;?", -1, 1, 0);
        due.system("classes weds a b;?", -1, 1, 8);
        due.system("classes 2 weds a b;?", -1, 1, 10);
        due.system("classes 2;2 weds a b;?", -1, 1, 10);
        due.system("classes 2;weds weds a b;?", -1, 1, 15);
        due.system("classes 2;weds a weds a b;?", -1, 1, 17);
        due.system("classes 2;weds a b weds a b;?", -1, 1, 19);
        due.system("classes ;weds a b;?", -1, 1, 8);
        due.system("classes 2;weds ;?", -1, 1, 15);
        due.system("classes 2;weds a ;?", -1, 1, 17);
    }

    static void promise04AnEmptyTape(Due due) {
        due.system("", -1, 1, 0);
    }

    static void promise04BlanksAlone(Due due) {
        due.system(" ", -1, 1, 1);
        due.system(" \n \n", -1, 1, 4);
    }

    static void promise04ATextThatEndsTooEarly(Due due) {
        due.system("classes", -1, 1, 7);
        due.system("classes 2", -1, 1, 9);
        due.system("classes 2;weds", -1, 1, 14);
        due.system("classes 2;weds a", -1, 1, 16);
        due.system("classes 2;weds a b", -1, 1, 18);
        due.system("classes 2;child a b", -1, 1, 19);
    }

    static void promise04TheEndsPlaceIsBehindBlanks(Due due) {
        due.system("classes 2 \n ", -1, 1, 12);
    }

    static void promise04AnotherFirstWord(Due due) {
        due.system("weds a b;", -1, 1, 0);
        due.system("  2;", -1, 1, 2);
        due.system(";", -1, 1, 0);
    }

    static void promise04AnotherWordForALine(Due due) {
        due.system("classes 2;wed a b;", -1, 1, 10);
        due.system("classes 2;children a b;", -1, 1, 10);
        due.system("classes 2;classes 2;", -1, 1, 10);
        due.system("classes 2;a b;", -1, 1, 10);
    }

    static void promise04OneMarkTooMany(Due due) {
        due.system("classes 2;;", -1, 1, 10);
        due.system("classes 2;weds a b;;", -1, 1, 19);
    }

    static void promise04TooFewOrTooManyClassesInALine(Due due) {
        due.system("classes 2;weds;", -1, 1, 14);
        due.system("classes 2;weds a;", -1, 1, 16);
        due.system("classes 2;weds a b a;", -1, 1, 19);
    }

    static void promise04LetterHIsAClassOfEight(Due due) {
        SectionHouse x = new SectionHouse();
        due.is("system()", Due.system(x, EIGHT), 8);
        due.is("weds h", x.weds(7), 0);
        due.is("child h", x.child(7, false), 0);
    }

    static void promise04LetterIIsNoClass(Due due) {
        due.system("classes 8;weds i a;", -1, 1, 15);
        due.system("classes 8;weds a i;", -1, 1, 17);
        due.system("classes 8;weds a z;", -1, 1, 17);
    }

    static void promise04ADigitIsNoClass(Due due) {
        due.system("classes 2;weds 0 1;", -1, 1, 15);
    }

    static void promise04Fault1OutdoesEarlierOnes(Due due) {
        due.system("classes 9;weds", -1, 1, 14);
        due.system("classes 2;weds a c;weds a b;weds a b;?", -1, 1, 37);
        due.system("classes 2;weds a b;weds a b", -1, 1, 27);
    }

    // ---- fault 2: a number, or a class that is not below it

    static void promise04ClassNotBelowTheNumber(Due due) {
        due.system("classes 2;weds c a;", -1, 2, 15);
        due.system("classes 2;weds a c;", -1, 2, 17);
        due.system("classes 2;child c a;", -1, 2, 16);
        due.system("classes 2;child a c;", -1, 2, 18);
        due.system("classes 7;weds a h;", -1, 2, 17);
    }

    static void promise04TheLastClassBelowTheNumber(Due due) {
        // without fault 2, it is fault 4 at the end
        due.system("classes 2;weds b b;", -1, 4, 19);
        due.system("classes 7;weds g g;", -1, 4, 19);
        due.system("classes 8;weds h h;", -1, 4, 19);
    }

    static void promise04TheFirstOfTwoInALine(Due due) {
        due.system("classes 2;weds d c;", -1, 2, 15);
    }

    static void promise04TheNumberComesBeforeItsClasses(Due due) {
        due.system("classes 1;weds b a;", -1, 2, 8);
        due.system("classes 9;weds a b;weds a b;", -1, 2, 8);
    }

    // ---- fault 3: a line for what an earlier one told

    static void promise04ALineToldTwice(Due due) {
        due.system("classes 2;weds a b;weds a a;", -1, 3, 19);
        due.system("classes 2;child b b;child b a;", -1, 3, 20);
    }

    static void promise04TheSameLineTwice(Due due) {
        due.system("classes 2;weds a b;weds a b;" + TIES, -1, 3, 19);
    }

    static void promise04Fault3EvenIfAllIsTold(Due due) {
        due.system("classes 2;" + TIES + " child a a;", -1, 3, 49);
    }

    static void promise04OneLineForWAndOneForC(Due due) {
        due.system("classes 2;weds a b;child a b;weds b a;child b a;", 2, 0, -1);
    }

    static void promise04Fault2And3ByPlace(Due due) {
        due.system("classes 2;weds a b;weds a c;", -1, 3, 19);
        due.system("classes 2;weds a c;weds a b;", -1, 2, 17);
        due.system("classes 2;weds a b;child a c;weds a b;", -1, 2, 27);
        due.system("classes 2;weds a b;weds a b;child a c;", -1, 3, 19);
    }

    // ---- fault 4: something is not told; fault 5: not one-to-one

    static void promise04NoLines(Due due) {
        due.system("classes 2;", -1, 4, 10);
    }

    static void promise04OneLineIsMissing(Due due) {
        due.system("classes 2;weds b a;child a a;child b b;", -1, 4, 39);
        due.system("classes 2;weds a b;child a a;child b b;", -1, 4, 39);
        due.system("classes 2;weds a b;weds b a;child b b;", -1, 4, 38);
        due.system("classes 2;weds a b;weds b a;child a a;", -1, 4, 38);
    }

    static void promise04TheLastOfEightIsMissing(Due due) {
        String text = EIGHT.substring(0, EIGHT.length() - "child h a;".length());
        due.system(text, -1, 4, text.length());
    }

    static void promise04Fault4IsAtTheEndsPlace(Due due) {
        due.system("classes 2; \n", -1, 4, 12);
    }

    static void promise04Fault2And3OutdoFault4(Due due) {
        due.system("classes 2;weds a c;", -1, 2, 17);
        due.system("classes 2;weds a b;weds a b;", -1, 3, 19);
    }

    static void promise04WNotOneToOne(Due due) {
        due.system("classes 2;weds a a;weds b a;child a a;child b b;", -1, 5, 0);
    }

    static void promise04CNotOneToOne(Due due) {
        due.system("classes 2;weds a b;weds b a;child a b;child b b;", -1, 5, 0);
    }

    static void promise04Fault5IsAtPlace0BeforeBlanksToo(Due due) {
        due.system("\n classes 2;weds a b;weds b b;child a a;child b b;", -1, 5, 0);
    }

    static void promise04Fault4OutdoesFault5(Due due) {
        due.system("classes 2;weds a b;weds b b;child a a;", -1, 4, 38);
    }

    static void promise04LastOfEightNotOneToOne(Due due) {
        due.system(EIGHT.substring(0, EIGHT.length() - 2) + "h;", -1, 5, 0);
    }

    static void promise04WNeedNotEqualC(Due due) {
        due.system("classes 2;weds a b;weds b a;child a b;child b a;", 2, 0, -1);
        due.system("classes 2;weds a a;weds b b;child a a;child b b;", 2, 0, -1);
    }

    // ---- the whole tape, and what stays

    static void promise04ATextOf400Bytes(Due due) {
        due.system(Due.TWO + Due.times(" ", 400 - Due.TWO.length()), 2, 0, -1);
        due.system(Due.times("\n", 400 - Due.TWO.length()) + Due.TWO, 2, 0, -1);
    }

    static void promise04FaultsAtPlace400(Due due) {
        due.system("classes 2;" + Due.times(" ", 390), -1, 4, 400);
        due.system("classes 2" + Due.times(" ", 391), -1, 1, 400);
        due.system(Due.times(" ", 400), -1, 1, 400);
    }

    static void promise04AFaultAtTheLastByte(Due due) {
        due.system(Due.TWO + Due.times(" ", 399 - Due.TWO.length()) + "?", -1, 1, 399);
    }

    static void promise04BytesBehindTheEndAreNotRead(Due due) {
        SectionHouse x = new SectionHouse();
        Due.tape(x, Due.TWO + "?");
        x.end(Due.TWO.length());
        due.is("system()", x.system(), 2);
    }

    static void promise04TheTapeIsEmptyThen(Due due) {
        SectionHouse x = Due.sections();
        due.is("end(1) behind a system", x.end(1), -1);
        Due.system(x, "classes 1;");
        due.is("end(1) behind a fault", x.end(1), -1);
        due.is("system() of what is left", x.system(), -1);
        due.is("its place", x.fault(1), 0);
    }

    static void promise04AFaultLeavesTheSystem(Due due) {
        String[] faulty = {"?", "classes 9;", "classes 2;weds a b;weds a b;", "classes 2;",
            "classes 2;weds a b;weds b b;child a a;child b b;"};
        for (int fault = 1; fault <= 5; fault++) {
            SectionHouse x = Due.sections();
            due.is("system() with fault " + fault, Due.system(x, faulty[fault - 1]), -1);
            due.is("fault(0)", x.fault(0), fault);
            due.is("count(0)", x.count(0), 4);
            due.is("weds(3)", x.weds(3), 2);
            due.is("child(1, false)", x.child(1, false), 3);
        }
    }

    static void promise04ANewSystemTakesTheOldOnesPlace(Due due) {
        SectionHouse x = new SectionHouse();
        Due.system(x, EIGHT);
        due.is("two behind eight", Due.system(x, Due.TWO), 2);
        due.is("count(0)", x.count(0), 2);
        due.is("weds(2)", x.weds(2), -1);
        due.is("child(1, true)", x.child(1, true), 0);
        due.is("turnsOf()", x.turnsOf(), 2);
        due.is("eight behind two", Due.system(x, EIGHT), 8);
        due.is("weds(7)", x.weds(7), 0);
    }

    static void promise04TellingsOfClassesThatItHasNotDisagree(Due due) {
        SectionHouse x = Due.people(Due.sections(), "1");
        x.tell(0, 2);
        due.is("class 2 of four", x.tells(0, 4), 4);
        Due.system(x, Due.TWO);
        due.is("class 2 of two", x.tells(0, 4), 0);
        due.is("is a quarrel", x.quarrel(0), 0);
        due.is("is wrong", x.wrong(0), 0);
        Due.system(x, Due.SECTIONS);
        due.is("class 2 of four again", x.tells(0, 4), 4);
    }

    static void promise04TheLastClassThatItHasAgrees(Due due) {
        SectionHouse x = Due.people(new SectionHouse(), "1");
        x.tell(0, 1);
        Due.system(x, Due.TWO);
        due.is("class 1 of two", x.tells(0, 4), 2);
        due.is("nothing is wrong", x.wrongs(), 0);
    }
}
