/** Boundary cases of promise 5: the text of laws, its faults and their order. */
final class EdgeLawText {
    private EdgeLawText() {
    }

    private static String lines(int n) {
        return Due.times("bar z;", n);
    }

    // ---- how many lines

    static void promise05AnEmptyTapeIsALaw(Due due) {
        due.law("", 0, 0, -1);
    }

    static void promise05BlanksAloneAreALaw(Due due) {
        due.law(" \n ", 0, 0, -1);
        due.law(Due.times(" ", 400), 0, 0, -1);
    }

    static void promise05SixteenLinesAreTheMost(Due due) {
        due.law(lines(16), 16, 0, -1);
    }

    static void promise05A17thLine(Due due) {
        due.law(lines(17), -1, 3, 96);
        due.law(lines(16) + "\n must z;", -1, 3, 98);
    }

    static void promise05AnEighteenthLineIsBlamedOnThe17th(Due due) {
        due.law(lines(18), -1, 3, 96);
    }

    static void promise05The17thLineComesBeforeItsOwnWord(Due due) {
        due.law(lines(16) + "bar f;", -1, 3, 96);
        due.law(lines(16) + "same f m;", -1, 3, 96);
    }

    static void promise05AFaultOfThe16thComesBeforeThe17th(Due due) {
        due.law(lines(15) + "bar f;bar z;", -1, 2, 94);
        due.law(lines(15) + "same f m;bar z;", -1, 2, 97);
    }

    static void promise05Fault1OutdoesThe17thLine(Due due) {
        due.law(lines(17) + "?", -1, 1, 102);
        due.law(lines(16) + "bar", -1, 1, 99);
    }

    static void promise05ALawOf400Bytes(Due due) {
        due.law(lines(16) + Due.times(" ", 304), 16, 0, -1);
        due.law(Due.times(" ", 393) + "must z;", 1, 0, -1);
    }

    static void promise05FaultsAtTheTapesEnd(Due due) {
        due.law(Due.times(" ", 397) + "bar", -1, 1, 400);
        due.law(Due.times(" ", 399) + "?", -1, 1, 399);
    }

    // ---- fault 1

    static void promise05ATextThatEndsTooEarly(Due due) {
        due.law("bar", -1, 1, 3);
        due.law("must ", -1, 1, 5);
        due.law("bar z", -1, 1, 5);
        due.law("same f", -1, 1, 6);
        due.law("same f b", -1, 1, 8);
        due.law("same f b\n", -1, 1, 9);
        due.law("bar z;must", -1, 1, 10);
    }

    static void promise05AnotherWordForALine(Due due) {
        due.law("bars z;", -1, 1, 0);
        due.law("ba z;", -1, 1, 0);
        due.law("z;", -1, 1, 0);
        due.law("bar z;weds a b;", -1, 1, 6);
        due.law("Bar z;", -1, 1, 0);
    }

    static void promise05AWordWithOtherLetters(Due due) {
        due.law("bar x;", -1, 1, 4);
        due.law("bar fffffa;", -1, 1, 4);
        due.law("same f bar;", -1, 1, 7);
        due.law("must must;", -1, 1, 5);
    }

    static void promise05NoWordAtAll(Due due) {
        due.law("bar ;", -1, 1, 4);
        due.law("bar 1;", -1, 1, 4);
        due.law("same ;", -1, 1, 5);
    }

    static void promise05OneWordTooManyOrTooFew(Due due) {
        due.law("bar z z;", -1, 1, 6);
        due.law("must z z;", -1, 1, 7);
        due.law("same f;", -1, 1, 6);
        due.law("same f b b;", -1, 1, 9);
    }

    static void promise05OneMarkTooMany(Due due) {
        due.law(";", -1, 1, 0);
        due.law("bar z;;", -1, 1, 6);
    }

    static void promise05DigitsAreNoLine(Due due) {
        due.law("1234", -1, 1, 0);
        due.law("bar z;12345", -1, 1, 6);
    }

    static void promise05BytesThatAreNoTokens(Due due) {
        for (int sign : new int[] {0, 9, 13, '`', '{', 'Z', ':', '<', 'z' + 128}) {
            due.law("bar " + (char) sign + ";", -1, 1, 4);
        }
    }

    static void promise05EveryLetterOfAWordCounts(Due due) {
        for (String word : new String[] {"xar", "bxr", "bax", "xust", "mxst", "muxt", "musx"}) {
            due.law(word + " z;", -1, 1, 0);
        }
        for (String word : new String[] {"xame", "sxme", "saxe", "samx"}) {
            due.law(word + " f f;", -1, 1, 0);
        }
    }

    static void promise05TheFirstOfSeveralFaults1(Due due) {
        due.law("x bar z;?", -1, 1, 0);
        due.law("bar bar z;?", -1, 1, 4);
        due.law("bar z bar z;?", -1, 1, 6);
        due.law("same same f f;?", -1, 1, 5);
        due.law("same f same f f;?", -1, 1, 7);
        due.law("same f f same f f;?", -1, 1, 9);
    }

    static void promise05Fault1OutdoesEarlierOnes(Due due) {
        due.law("bar f;same f m;bar", -1, 1, 18);
        due.law("bar hh;?", -1, 1, 7);
    }

    // ---- fault 2

    static void promise05AWordOfOneLetter(Due due) {
        due.law("bar z;", 1, 0, -1);
    }

    static void promise05AWordOfEightLetters(Due due) {
        due.law("bar fffffffz;", 1, 0, -1);
        due.law("same ffffffff bbbbbbbb;", 1, 0, -1);
    }

    static void promise05AWordOfNineLetters(Due due) {
        due.law("bar ffffffffz;", -1, 2, 4);
        due.law("must ffffffffz;", -1, 2, 5);
        due.law("same fffffffff f;", -1, 2, 5);
        due.law("same f fffffffff;", -1, 2, 7);
        due.law("same z zzzzzzzzz;", -1, 2, 7);
    }

    static void promise05WordsGoFromAManOn(Due due) {
        due.law("bar w;", 1, 0, -1);
        due.law("same h h;", -1, 2, 5);
        due.law("bar hz;", -1, 2, 4);
    }

    static void promise05HusbandsAndWivesOnTheWay(Due due) {
        due.law("bar zhw;", 1, 0, -1);
        due.law("bar ww;", -1, 2, 4);
        due.law("bar whhz;", -1, 2, 4);
        due.law("bar zw;", -1, 2, 4);
        due.law("bar fhz;", -1, 2, 4);
    }

    static void promise05BarAndMustLeadToAWoman(Due due) {
        for (char last : "fsbh".toCharArray()) {
            due.law("bar z" + last + ";", -1, 2, 4);
            due.law("must z" + last + ";", -1, 2, 5);
        }
        for (char last : "mdzw".toCharArray()) {
            due.law("bar b" + last + ";must b" + last + ";", 2, 0, -1);
        }
    }

    static void promise05SameMayLeadToMen(Due due) {
        due.law("same f b;same z m;", 2, 0, -1);
    }

    static void promise05SameLeadsToOneSex(Due due) {
        due.law("same f z;", -1, 2, 7);
        due.law("same z f;", -1, 2, 7);
        due.law("same mf fm;", -1, 2, 8);
    }

    static void promise05TheSecondIsNotBlamedIfTheFirstIsAtFault(Due due) {
        due.law("same h z;", -1, 2, 5);
        due.law("same zw h;", -1, 2, 5);
    }

    static void promise05TheFirstOfSeveralFaults(Due due) {
        due.law("bar z;must f;bar f;", -1, 2, 11);
    }

    // ---- what stays

    static void promise05TheTapeIsEmptyThen(Due due) {
        SectionHouse x = new SectionHouse();
        Due.law(x, "bar z;");
        due.is("end(1) behind a law", x.end(1), -1);
        Due.law(x, "bar f;");
        due.is("end(1) behind a fault", x.end(1), -1);
    }

    static void promise05AFaultLeavesTheLaw(Due due) {
        String[] faulty = {"bar", "bar z;bar f;", lines(17)};
        for (int fault = 1; fault <= 3; fault++) {
            SectionHouse x = Due.sections();
            Due.law(x, "bar z;must z;");
            due.is("law() with fault " + fault, Due.law(x, faulty[fault - 1]), -1);
            due.is("fault(0)", x.fault(0), fault);
            due.is("count(1)", x.count(1), 2);
            due.is("broken()", x.broken(), 1);
            due.is("systems(2)", x.systems(2), 0);
        }
    }

    static void promise05AnEmptyLawTakesTheOldOnesPlace(Due due) {
        SectionHouse x = Due.sections();
        Due.law(x, "must z;");
        due.is("is(2)", x.is(2), false);
        due.is("law()", x.law(), 0);
        due.is("count(1)", x.count(1), 0);
        due.is("broken()", x.broken(), -1);
        due.is("is(2) then", x.is(2), true);
    }

    static void promise05AShorterLawTakesTheOldOnesPlace(Due due) {
        SectionHouse x = Due.sections();
        Due.law(x, "bar z;bar m;must z;");
        due.is("broken()", x.broken(), 2);
        Due.law(x, "bar z;");
        due.is("broken() then", x.broken(), -1);
    }
}
