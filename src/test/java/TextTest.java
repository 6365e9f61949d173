/** Promises 1 to 7: a new object, the tape, and the faults of texts. */
public final class TextTest {
    private static final Due DUE = new Due("TextTest");

    public static void main(String[] args) {
        newObject();
        tape();
        tapeBytes();
        systemTexts();
        systemFaultOne();
        systemOtherFaults();
        systemStays();
        lawTexts();
        lawFaults();
        words();
        wordLimits();
        faultOfTheLatest();
        DUE.finish();
    }

    private static void newObject() {
        SectionHouse x = new SectionHouse();
        int[] counts = {0, 0, 0, 0, 0, 0, 0, -1, 0, 0};
        for (int what = 0; what < counts.length; what++) {
            DUE.is("new: count(" + what + ")", x.count(what), counts[what]);
        }
        DUE.is("new: fault(0)", x.fault(0), 0);
        DUE.is("new: fault(1)", x.fault(1), -1);
        DUE.is("new: end(0)", x.end(0), 0);
        DUE.is("new: end(1)", x.end(1), -1);
        for (int k = 0; k < 3; k++) {
            DUE.is("new: again(" + k + ")", x.again(k), false);
        }
    }

    private static void tape() {
        SectionHouse x = new SectionHouse();
        for (int n = 20; n <= 400; n += 20) {
            DUE.is("feed up to " + n, x.feed(1, 2, 3, 4, 5), n);
        }
        DUE.is("feed above 400", x.feed(1, 2, 3, 4, 5), -1);
        DUE.is("end(401)", x.end(401), -1);
        DUE.is("end(400)", x.end(400), 400);
        DUE.is("end(381)", x.end(381), 381);
        DUE.is("feed behind 381", x.feed(1, 2, 3, 4, 5), -1);
        DUE.is("end(-1)", x.end(-1), -1);
        DUE.is("end(min)", x.end(Integer.MIN_VALUE), -1);
        DUE.is("end(max)", x.end(Integer.MAX_VALUE), -1);
        DUE.is("end(380)", x.end(380), 380);
        DUE.is("end(381) again", x.end(381), -1);
        DUE.is("feed behind 380", x.feed(1, 2, 3, 4, 5), 400);
        DUE.is("end(0)", x.end(0), 0);
        DUE.is("feed behind 0", x.feed(1, 2, 3, 4, 5), 20);
    }

    private static void tapeBytes() {
        SectionHouse x = new SectionHouse();
        // 'fmsd' 'bzfm' 'sdbz': the highest byte of each number comes first
        x.feed(0x666d7364, 0x627a666d, 0x7364627a, 0, 0);
        x.end(8);
        DUE.is("word of fed bytes", x.word(1), 0);
        Due.system(x, Due.SECTIONS);
        SectionHouse y = Due.sections();
        Due.word(y, "fmsdbzfm", 1);
        DUE.is("letters of fed bytes", x.about(0, 2), 8);
        for (int i = 0; i < 4; i++) {
            DUE.is("leads of fed bytes", x.leads(0, i), y.leads(0, i));
        }
        SectionHouse z = new SectionHouse();
        z.feed(0x66660061, -1, 0, 0, 0);
        DUE.is("word with a byte 0", z.word(1), -1);
        DUE.is("fault of a byte 0", z.fault(0), 1);
        DUE.is("place of a byte 0", z.fault(1), 2);
        z.feed(-1, -1, -1, -1, -1);
        DUE.is("system of bytes 255", z.system(), -1);
        DUE.is("place of bytes 255", z.fault(1), 0);
    }

    private static void systemTexts() {
        DUE.system(Due.SECTIONS, 4, 0, -1);
        DUE.system("classes 2;weds a b;weds b a;child a a;child b b;", 2, 0, -1);
        DUE.system("child b b;", -1, 1, 0);
        DUE.system("\n classes\n2 ; weds a b;weds b\na ; child a a;child b b ; \n", 2, 0, -1);
        DUE.system("classes2;weds a b;weds b a;child a a;child b b;", 2, 0, -1);
        DUE.system("classes 0002;child b a;child a b;weds b a;weds a b;", 2, 0, -1);
        DUE.system("classes 2;weds a a;weds b b;child a a;child b b;", 2, 0, -1);
        int[] wives = {1, 2, 3, 4, 5, 6, 7, 0};
        int[] children = {7, 6, 5, 4, 3, 2, 1, 0};
        DUE.system(Due.systemText(wives, children), 8, 0, -1);
    }

    private static void systemFaultOne() {
        DUE.system("", -1, 1, 0);
        DUE.system("   ", -1, 1, 3);
        DUE.system("classes", -1, 1, 7);
        DUE.system("classes 2", -1, 1, 9);
        DUE.system("classes 2 \n", -1, 1, 11);
        DUE.system("weds a b;", -1, 1, 0);
        DUE.system("classes ;", -1, 1, 8);
        DUE.system("classes a;", -1, 1, 8);
        DUE.system("classes 2 weds a b;", -1, 1, 10);
        DUE.system("classes 12345;", -1, 1, 8);
        DUE.system("classes 1234", -1, 1, 12);
        DUE.system("classes 2;;", -1, 1, 10);
        DUE.system("classes 2;classes 2;", -1, 1, 10);
        DUE.system("classes 2;weds a i;", -1, 1, 17);
        DUE.system("classes 2;weds ab;", -1, 1, 15);
        DUE.system("classes 2;weds a b", -1, 1, 18);
        DUE.system("classes 2;weds a b c;", -1, 1, 19);
        DUE.system("classes 2;weds a;", -1, 1, 16);
        DUE.system("classes 2;weds a 1;", -1, 1, 17);
        DUE.system("classes 2;wedsa b;", -1, 1, 10);
        DUE.system("classes 2;weds A b;", -1, 1, 15);
        DUE.system("classes 2;weds\ta b;", -1, 1, 14);
        DUE.system("classes 2;weds a b;#", -1, 1, 19);
        DUE.system("classesx 2;", -1, 1, 0);
        DUE.system("Classes 2;", -1, 1, 0);
        DUE.system("classes 2;weds a b;weds b a;child a a;child b b;12345", -1, 1, 48);
        // fault 1 outdoes those that stand before it
        DUE.system("classes 1;weds a", -1, 1, 16);
        DUE.system("classes 2;weds a c;weds a b;x", -1, 1, 28);
    }

    private static void systemOtherFaults() {
        DUE.system("classes 1;", -1, 2, 8);
        DUE.system("classes 9;", -1, 2, 8);
        DUE.system("classes 0;", -1, 2, 8);
        DUE.system("classes  9999;weds a b;weds a b;", -1, 2, 9);
        DUE.system("classes 2;weds a c;", -1, 2, 17);
        DUE.system("classes 2;weds c a;", -1, 2, 15);
        DUE.system("classes 2;weds h h;", -1, 2, 15);
        DUE.system("classes 2;weds a b;weds a b;", -1, 3, 19);
        DUE.system("classes 2;child a b;child a b;", -1, 3, 20);
        DUE.system("classes 2;weds a b;child a b;", -1, 4, 29);
        DUE.system("classes 2;weds a b;weds a c;", -1, 3, 19);
        DUE.system("classes 2;weds a c;weds a b;", -1, 2, 17);
        DUE.system("classes 2;weds a b;weds b c;weds a b;", -1, 2, 26);
        DUE.system("classes 2;", -1, 4, 10);
        DUE.system("classes 2; ", -1, 4, 11);
        DUE.system("classes 2;weds a b;weds b a;child a a;", -1, 4, 38);
        DUE.system("classes 2;weds a b;child a a;child b b;", -1, 4, 39);
        DUE.system("classes 2;weds a b;weds b b;child a a;", -1, 4, 38);
        DUE.system("classes 2;weds b a;child a a;child b b;", -1, 4, 39);
        DUE.system("classes 2;weds a b;weds b a;child b b;", -1, 4, 38);
        DUE.system("classes 2;weds a b;weds b b;child a a;child b b;", -1, 5, 0);
        DUE.system("classes 2;weds a a;weds b a;child a a;child b b;", -1, 5, 0);
        DUE.system("classes 2;weds a b;weds b a;child a b;child b b;", -1, 5, 0);
        DUE.system(" classes 2;weds a b;weds b a;child a a;child b a;", -1, 5, 0);
    }

    private static void systemStays() {
        SectionHouse x = Due.sections();
        DUE.is("a fault", Due.system(x, "classes 1;"), -1);
        DUE.is("count(0) behind a fault", x.count(0), 4);
        DUE.is("weds(2) behind a fault", x.weds(2), 3);
        DUE.is("a new system", Due.system(x, "classes 2;weds a b;weds b a;child a a;child b b;"), 2);
        DUE.is("count(0) of it", x.count(0), 2);
        DUE.is("weds(2) of it", x.weds(2), -1);
        DUE.is("fault(0) of it", x.fault(0), 0);
        DUE.is("fault(1) of it", x.fault(1), -1);
    }

    private static void lawTexts() {
        DUE.law("", 0, 0, -1);
        DUE.law(" \n ", 0, 0, -1);
        DUE.law("bar z;bar m;must mbd;same fzd mbd;", 4, 0, -1);
        DUE.law("bar\nz ; same f\nb;", 2, 0, -1);
        DUE.law("must ffffffff;", -1, 2, 5);
        DUE.law("must fffffffz;", 1, 0, -1);
        DUE.law("bar wmzd;", 1, 0, -1);
        DUE.law("same wh b;", 1, 0, -1);
        DUE.law(Due.times("bar z;", 16), 16, 0, -1);
    }

    private static void lawFaults() {
        DUE.law("bar", -1, 1, 3);
        DUE.law("bar ", -1, 1, 4);
        DUE.law("bar x;", -1, 1, 4);
        DUE.law("bar fx;", -1, 1, 4);
        DUE.law("bar ;", -1, 1, 4);
        DUE.law("bar 1;", -1, 1, 4);
        DUE.law("bar z", -1, 1, 5);
        DUE.law("bar z z;", -1, 1, 6);
        DUE.law("z;", -1, 1, 0);
        DUE.law(";", -1, 1, 0);
        DUE.law("same f;", -1, 1, 6);
        DUE.law("same f m", -1, 1, 8);
        DUE.law("same f m m;", -1, 1, 9);
        DUE.law("bar f;bar", -1, 1, 9);
        DUE.law("bar h;", -1, 2, 4);
        DUE.law("bar f;", -1, 2, 4);
        DUE.law("must wwz;", -1, 2, 5);
        DUE.law("bar zw;", -1, 2, 4);
        DUE.law("bar fffffffff;", -1, 2, 4);
        DUE.law("must zzzzzzzzz;", -1, 2, 5);
        DUE.law("same f m;", -1, 2, 7);
        DUE.law("same f h;", -1, 2, 7);
        DUE.law("same h m;", -1, 2, 5);
        DUE.law("same m f;", -1, 2, 7);
        DUE.law("same z zzzzzzzzz;", -1, 2, 7);
        DUE.law("bar z;bar f;same f m;", -1, 2, 10);
        DUE.law(Due.times("bar z;", 17), -1, 3, 96);
        DUE.law(Due.times("bar z;", 16) + " same f m;", -1, 3, 97);
        DUE.law(Due.times("bar z;", 15) + "bar f;bar z;", -1, 2, 94);
        DUE.law(Due.times("bar z;", 17) + "bar", -1, 1, 105);
        SectionHouse x = new SectionHouse();
        Due.law(x, "bar z;bar m;");
        DUE.is("a fault", Due.law(x, "bar f;"), -1);
        DUE.is("LINES behind a fault", x.count(1), 2);
        DUE.is("another law", Due.law(x, "must z;"), 1);
        DUE.is("LINES of it", x.count(1), 1);
        DUE.is("an empty law", x.law(), 0);
        DUE.is("LINES of that", x.count(1), 0);
    }

    private static void words() {
        DUE.word("f", 1, 0, 0, -1);
        DUE.word("mbd", 0, 0, 0, -1);
        DUE.word("h", 0, 0, 0, -1);
        DUE.word("w", 1, 0, 0, -1);
        DUE.word("whwhwhwh", 1, 0, 0, -1);
        DUE.word("hwhwhwhw", 0, 0, 0, -1);
        DUE.word("zh", 1, 0, 0, -1);
        DUE.word("", 1, -1, 1, 0);
        DUE.word("h", 1, -1, 2, 0);
        DUE.word("w", 0, -1, 2, 0);
        DUE.word("fq", 1, -1, 1, 1);
        DUE.word("hq", 1, -1, 1, 1);
        DUE.word("f ", 1, -1, 1, 1);
        DUE.word(" f", 1, -1, 1, 0);
        DUE.word("f;", 1, -1, 1, 1);
        DUE.word("F", 1, -1, 1, 0);
        DUE.word("fffffffff", 1, -1, 2, 8);
        DUE.word("ffffffffffx", 1, -1, 1, 10);
        DUE.word("ffhffffff", 1, -1, 2, 2);
        DUE.word("fmw", 1, -1, 2, 2);
        DUE.word("dh", 0, 0, 0, -1);
        DUE.word("sh", 0, -1, 2, 1);
    }

    private static void wordLimits() {
        SectionHouse x = new SectionHouse();
        for (int sex : new int[] {2, -1, Integer.MIN_VALUE, Integer.MAX_VALUE}) {
            refusedWord(x, "hq", sex);
            refusedWord(x, "", sex);
            DUE.is("count(2) behind word(" + sex + ")", x.count(2), 0);
        }
        for (int k = 0; k < 8; k++) {
            DUE.is("word " + k, Due.word(x, "f", k & 1), k);
        }
        refusedWord(x, "h", 1);
        refusedWord(x, "f", 0);
        refusedWord(x, "f", 2);
        DUE.is("count(2)", x.count(2), 8);
    }

    /** Such a text is not read, but the tape is taken all the same, and an earlier fault is forgotten. */
    private static void refusedWord(SectionHouse x, String text, int sex) {
        Due.system(x, "?");
        DUE.is("a fault ahead", x.fault(0), 1);
        DUE.is("word(" + sex + ") of '" + text + "'", Due.word(x, text, sex), -2);
        DUE.is("fault(0) of it", x.fault(0), 0);
        DUE.is("fault(1) of it", x.fault(1), -1);
        DUE.is("the tape behind it", x.end(1), -1);
        DUE.is("a tape from there on", x.feed(0, 0, 0, 0, 0), 20);
        x.end(0);
    }

    private static void faultOfTheLatest() {
        SectionHouse x = new SectionHouse();
        Due.word(x, "fq", 1);
        DUE.is("fault(-1)", x.fault(-1), -1);
        DUE.is("fault(2)", x.fault(2), -1);
        DUE.is("fault(0)", x.fault(0), 1);
        x.feed(1, 2, 3, 4, 5);
        x.end(0);
        DUE.is("fault(1) behind feed and end", x.fault(1), 1);
        x.law();
        DUE.is("fault(0) behind a law", x.fault(0), 0);
        DUE.is("fault(1) behind a law", x.fault(1), -1);
        x.system();
        DUE.is("fault(0) behind no system", x.fault(0), 1);
    }
}
