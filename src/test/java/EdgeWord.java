/** Boundary cases of promise 6: kin words, their letters and their number. */
final class EdgeWord {
    private EdgeWord() {
    }

    private static SectionHouse withEight() {
        SectionHouse x = new SectionHouse();
        for (int k = 0; k < 8; k++) {
            Due.word(x, "f", 1);
        }
        return x;
    }

    /** No text is read, but the tape is taken, and an earlier fault is forgotten. */
    private static void refused(Due due, SectionHouse x, String text, int sex) {
        Due.system(x, "??");
        int words = x.count(2);
        due.is("word(" + sex + ") of '" + text + "'", Due.word(x, text, sex), -2);
        due.is("fault(0)", x.fault(0), 0);
        due.is("fault(1)", x.fault(1), -1);
        due.is("the tape is empty", x.end(1), -1);
        due.is("count(2)", x.count(2), words);
    }

    static void promise06OneLetter(Due due) {
        for (char letter : "fmsdbz".toCharArray()) {
            due.word("" + letter, 0, 0, 0, -1);
            due.word("" + letter, 1, 0, 0, -1);
        }
    }

    static void promise06NoLetterAtAll(Due due) {
        due.word("", 0, -1, 1, 0);
        due.word("", 1, -1, 1, 0);
    }

    static void promise06EightLettersAreTheMost(Due due) {
        due.word("ffffffff", 1, 0, 0, -1);
        due.word("fmsdbzfm", 0, 0, 0, -1);
    }

    static void promise06TheNinthLetter(Due due) {
        due.word("fffffffff", 1, -1, 2, 8);
        due.word("ffffffffff", 0, -1, 2, 8);
        due.word("ffffffffh", 1, -1, 2, 8);
    }

    static void promise06AFullTapeOfLetters(Due due) {
        due.word(Due.times("f", 400), 1, -1, 2, 8);
        due.word(Due.times("f", 399) + "?", 1, -1, 1, 399);
    }

    static void promise06HusbandOfAWomanAlone(Due due) {
        due.word("h", 0, 0, 0, -1);
        due.word("h", 1, -1, 2, 0);
        for (char woman : "mdzw".toCharArray()) {
            due.word("b" + woman + "h", 1, 0, 0, -1);
        }
        for (char man : "fsbh".toCharArray()) {
            due.word("z" + man + "h", 0, -1, 2, 2);
        }
    }

    static void promise06WifeOfAManAlone(Due due) {
        due.word("w", 1, 0, 0, -1);
        due.word("w", 0, -1, 2, 0);
        for (char man : "fsbh".toCharArray()) {
            due.word("z" + man + "w", 0, 0, 0, -1);
        }
        for (char woman : "mdzw".toCharArray()) {
            due.word("b" + woman + "w", 1, -1, 2, 2);
        }
    }

    static void promise06TheEighthLetterByWhichItIsNone(Due due) {
        due.word("fffffffh", 1, -1, 2, 7);
        due.word("fffffffw", 1, 0, 0, -1);
    }

    static void promise06TheFirstByWhichItIsNone(Due due) {
        due.word("hfhfffffff", 1, -1, 2, 0);
        due.word("fhfhffffff", 1, -1, 2, 1);
    }

    static void promise06AByteThatIsNoneOfItsLetters(Due due) {
        due.word("fq", 1, -1, 1, 1);
        due.word("ffffffffq", 1, -1, 1, 8);
        due.word("a", 1, -1, 1, 0);
        due.word("F", 1, -1, 1, 0);
        for (char other : "acegijklnopqrtuvxy".toCharArray()) {
            due.word("" + other, 1, -1, 1, 0);
        }
    }

    static void promise06TheFirstByteOfSeveral(Due due) {
        due.word("f?f?", 1, -1, 1, 1);
    }

    static void promise06BlanksAreNoneOfItsLetters(Due due) {
        due.word("f ", 1, -1, 1, 1);
        due.word(" f", 1, -1, 1, 0);
        due.word("f\n", 1, -1, 1, 1);
        due.word(" ", 1, -1, 1, 0);
        due.word("f;", 1, -1, 1, 1);
    }

    static void promise06BytesThatWrapToLetters(Due due) {
        due.word("" + (char) ('f' + 128), 1, -1, 1, 0);
        due.word("f" + (char) 0, 1, -1, 1, 1);
        due.word("f" + (char) 255, 1, -1, 1, 1);
    }

    static void promise06Fault1OutdoesAnEarlierFault2(Due due) {
        due.word("hq", 1, -1, 1, 1);
        due.word("ffffffffffffq", 1, -1, 1, 12);
    }

    static void promise06EightWordsAreTheMost(Due due) {
        SectionHouse x = new SectionHouse();
        for (int k = 0; k < 8; k++) {
            due.is("word", Due.word(x, "f", k & 1), k);
        }
        due.is("count(2)", x.count(2), 8);
    }

    static void promise06ANinthWord(Due due) {
        SectionHouse x = withEight();
        refused(due, x, "f", 1);
        refused(due, x, "f", 0);
        due.is("about(8, 2)", x.about(8, 2), -1);
        due.is("about(7, 2)", x.about(7, 2), 1);
    }

    static void promise06ANinthWordIsNotRead(Due due) {
        SectionHouse x = withEight();
        refused(due, x, "", 1);
        refused(due, x, "?", 1);
        refused(due, x, "h", 1);
    }

    static void promise06AnotherSex(Due due) {
        SectionHouse x = new SectionHouse();
        refused(due, x, "f", 2);
        refused(due, x, "f", -1);
        for (int sex : Due.FAR) {
            refused(due, x, "f", sex);
        }
    }

    static void promise06AnotherSexIsNotRead(Due due) {
        SectionHouse x = new SectionHouse();
        refused(due, x, "", 2);
        refused(due, x, "?", 2);
        refused(due, x, "fffffffff", -1);
    }

    static void promise06AnotherSexOfANinthWord(Due due) {
        refused(due, withEight(), "f", 2);
    }

    static void promise06AFaultTakesNoNumber(Due due) {
        SectionHouse x = new SectionHouse();
        Due.word(x, "f", 1);
        due.is("fault 1", Due.word(x, "?", 1), -1);
        due.is("fault 2", Due.word(x, "h", 1), -1);
        due.is("count(2)", x.count(2), 1);
        due.is("the next one", Due.word(x, "mm", 1), 1);
        due.is("its letters", x.about(1, 2), 2);
    }

    static void promise06TheTapeIsEmptyThen(Due due) {
        SectionHouse x = new SectionHouse();
        Due.word(x, "f", 1);
        due.is("end(1) behind a word", x.end(1), -1);
        Due.word(x, "?", 1);
        due.is("end(1) behind fault 1", x.end(1), -1);
        Due.word(x, "h", 1);
        due.is("end(1) behind fault 2", x.end(1), -1);
    }

    static void promise06WordsStayWhenSystemsAndLawsChange(Due due) {
        SectionHouse x = new SectionHouse();
        Due.word(x, "mm", 1);
        Due.system(x, Due.SECTIONS);
        Due.law(x, "bar z;");
        due.is("count(2)", x.count(2), 1);
        due.is("about(0, 2)", x.about(0, 2), 2);
    }
}
