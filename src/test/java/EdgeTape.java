/** Boundary cases of promises 1 to 3 and 7: a new object, the tape, and the fault of the latest text. */
final class EdgeTape {
    private EdgeTape() {
    }

    private static SectionHouse fed(int bytes) {
        SectionHouse x = new SectionHouse();
        for (int i = 0; i < bytes; i += 20) {
            x.feed(0, 0, 0, 0, 0);
        }
        x.end(bytes);
        return x;
    }

    // ---- promise 1: a new object

    static void promise01NoSystem(Due due) {
        SectionHouse x = new SectionHouse();
        due.is("count(0)", x.count(0), 0);
        due.is("weds(0)", x.weds(0), -1);
        due.is("turnsOf()", x.turnsOf(), -1);
        due.is("is(0)", x.is(0), false);
    }

    static void promise01NoLaw(Due due) {
        SectionHouse x = new SectionHouse();
        due.is("count(1)", x.count(1), 0);
        due.is("systems(2): all that are proper", x.systems(2), 2);
        Due.system(x, Due.TWO);
        due.is("broken()", x.broken(), -1);
        due.is("is(2)", x.is(2), true);
    }

    static void promise01NoKinWords(Due due) {
        SectionHouse x = Due.sections();
        due.is("count(2)", x.count(2), 0);
        due.is("about(0, 0)", x.about(0, 0), -1);
        due.is("about(0, 2)", x.about(0, 2), -1);
        due.is("leads(0, 0)", x.leads(0, 0), -1);
        due.is("alike(0, 0)", x.alike(0, 0), false);
        due.is("the first one's number", Due.word(x, "f", 1), 0);
    }

    static void promise01NoPersonsAndNothingTold(Due due) {
        SectionHouse x = Due.sections();
        for (int what : new int[] {3, 4, 5, 8, 9}) {
            due.is("count(" + what + ")", x.count(what), 0);
        }
        due.is("tells(0, 0)", x.tells(0, 0), -2);
        due.is("told(0, 0)", x.told(0, 0), -2);
        due.is("the first one's number", x.person(0), 0);
    }

    static void promise01DayIs0(Due due) {
        due.is("count(6)", new SectionHouse().count(6), 0);
    }

    static void promise01ViewIsNow(Due due) {
        SectionHouse x = Due.people(Due.sections(), "1");
        due.is("count(7)", x.count(7), -1);
        x.day(5);
        x.tell(0, 1);
        due.is("what is told later is seen", x.tells(0, 4), 2);
    }

    static void promise01NoImages(Due due) {
        SectionHouse x = new SectionHouse();
        for (int k = 0; k < 3; k++) {
            due.is("again(" + k + ")", x.again(k), false);
        }
    }

    static void promise01TapeIsEmpty(Due due) {
        SectionHouse x = new SectionHouse();
        due.is("end(1)", x.end(1), -1);
        due.is("feed", x.feed(0, 0, 0, 0, 0), 20);
    }

    static void promise01NoFault(Due due) {
        SectionHouse x = new SectionHouse();
        due.is("fault(0)", x.fault(0), 0);
        due.is("fault(1)", x.fault(1), -1);
    }

    static void promise01ObjectsAreApart(Due due) {
        SectionHouse x = Due.people(Due.sections(), "01");
        Due.law(x, "must z;");
        Due.word(x, "f", 1);
        x.tell(0, 3);
        x.day(9);
        x.view(4);
        x.image(0);
        x.feed(1, 2, 3, 4, 5);
        SectionHouse y = new SectionHouse();
        for (int what = 0; what < 10; what++) {
            due.is("another one's count(" + what + ")", y.count(what), what == 7 ? -1 : 0);
        }
        due.is("another one's again(0)", y.again(0), false);
        due.is("another one's tape", y.end(1), -1);
        due.is("another one's law", y.systems(2), 2);
    }

    // ---- promise 2: feed

    static void promise02TwentyBytesEachUpTo400(Due due) {
        SectionHouse x = new SectionHouse();
        for (int n = 20; n <= 400; n += 20) {
            due.is("feed", x.feed(0, 0, 0, 0, 0), n);
        }
    }

    static void promise02AFullTapeTakesNoMore(Due due) {
        SectionHouse x = fed(400);
        due.is("feed at 400", x.feed(0, 0, 0, 0, 0), -1);
        due.is("feed once more", x.feed(0, 0, 0, 0, 0), -1);
    }

    static void promise02At380TwentyMoreGo(Due due) {
        due.is("feed at 380", fed(380).feed(0, 0, 0, 0, 0), 400);
    }

    static void promise02At381TwentyMoreGoNot(Due due) {
        SectionHouse x = fed(381);
        due.is("feed at 381", x.feed(0, 0, 0, 0, 0), -1);
        due.is("nothing came: end(382)", x.end(382), -1);
        due.is("nothing came: end(381)", x.end(381), 381);
        due.is("feed at 399", fed(399).feed(0, 0, 0, 0, 0), -1);
    }

    static void promise02ARefusedFeedChangesNoByte(Due due) {
        SectionHouse x = new SectionHouse();
        Due.tape(x, Due.times(" ", 394) + "bar z;");
        due.is("feed of other bytes", x.feed(-1, -1, -1, -1, -1), -1);
        due.is("the law that was fed", x.law(), 1);
    }

    static void promise02HighestByteFirst(Due due) {
        for (int place = 0; place < 20; place++) {
            int[] five = new int[5];
            for (int i = 0; i < 20; i++) {
                five[i / 4] = five[i / 4] << 8 | (i == place ? '?' : 'f');
            }
            SectionHouse x = new SectionHouse();
            x.feed(five[0], five[1], five[2], five[3], five[4]);
            x.word(1);
            due.is("fault(0) of '?' at " + place, x.fault(0), 1);
            due.is("fault(1) of '?' at " + place, x.fault(1), place);
        }
    }

    static void promise02NumbersBelow0(Due due) {
        // 0xe6 is 'f' with the highest bit, so no letter
        SectionHouse x = new SectionHouse();
        due.is("feed", x.feed(0xe6666666, -1, Integer.MIN_VALUE, Integer.MAX_VALUE, 0), 20);
        x.word(1);
        due.is("fault(1) of byte 230", x.fault(1), 0);
        x.feed(0x666666e6, 0x66666666, 0, 0, 0);
        x.end(8);
        x.word(1);
        due.is("fault(1) of byte 230 in fourth place", x.fault(1), 3);
    }

    static void promise02TheTapeIsFreeAgainBehindEnd(Due due) {
        SectionHouse x = fed(400);
        x.end(380);
        due.is("feed behind end(380)", x.feed(0, 0, 0, 0, 0), 400);
        x.end(0);
        due.is("feed behind end(0)", x.feed(0, 0, 0, 0, 0), 20);
    }

    static void promise02TheTapeIsFreeAgainBehindATakenText(Due due) {
        SectionHouse x = fed(400);
        x.system();
        due.is("feed behind system()", x.feed(0, 0, 0, 0, 0), 20);
    }

    // ---- promise 3: end

    static void promise03EndOfAnEmptyTape(Due due) {
        SectionHouse x = new SectionHouse();
        due.is("end(0)", x.end(0), 0);
        due.is("end(1)", x.end(1), -1);
    }

    static void promise03AllBytesAreSoMany(Due due) {
        SectionHouse x = fed(20);
        due.is("end(20)", x.end(20), 20);
        due.is("feed behind it", x.feed(0, 0, 0, 0, 0), 40);
        due.is("end(400) of a full one", fed(400).end(400), 400);
    }

    static void promise03OneMoreIsNotThere(Due due) {
        due.is("end(21) of 20", fed(20).end(21), -1);
        due.is("end(401) of 400", fed(400).end(401), -1);
    }

    static void promise03OneLess(Due due) {
        SectionHouse x = fed(20);
        due.is("end(19)", x.end(19), 19);
        due.is("end(20) then", x.end(20), -1);
        due.is("end(19) again", x.end(19), 19);
    }

    static void promise03Below0(Due due) {
        due.is("end(-1)", fed(20).end(-1), -1);
    }

    static void promise03FarNumbers(Due due) {
        SectionHouse x = fed(400);
        for (int n : Due.FAR) {
            due.is("end(" + n + ")", x.end(n), -1);
        }
        due.is("the tape is whole", x.end(400), 400);
    }

    static void promise03ARefusedEndChangesNothing(Due due) {
        SectionHouse x = fed(20);
        x.end(21);
        x.end(-1);
        due.is("feed", x.feed(0, 0, 0, 0, 0), 40);
    }

    static void promise03TheFirstOnesStay(Due due) {
        SectionHouse x = new SectionHouse();
        x.feed(0x66663f3f, 0, 0, 0, 0);
        x.end(2);
        x.feed(0x66663f66, 0, 0, 0, 0);
        x.end(6);
        x.word(1);
        // f f from the first feed, f f ? f from the second one
        due.is("the place of '?'", x.fault(1), 4);
    }

    // ---- promise 7: fault

    static void promise07AnotherWhat(Due due) {
        SectionHouse x = new SectionHouse();
        due.is("fault(2) without a fault", x.fault(2), -1);
        due.is("fault(-1) without a fault", x.fault(-1), -1);
        Due.word(x, "ff?", 1);
        due.is("fault(2)", x.fault(2), -1);
        due.is("fault(-1)", x.fault(-1), -1);
        for (int what : Due.FAR) {
            due.is("fault(" + what + ")", x.fault(what), -1);
        }
    }

    static void promise07WithoutOneThePlaceIsNoneNot0(Due due) {
        SectionHouse x = new SectionHouse();
        x.system();
        due.is("a fault's place 0", x.fault(1), 0);
        x.law();
        due.is("fault(0) without", x.fault(0), 0);
        due.is("fault(1) without", x.fault(1), -1);
    }

    static void promise07OfTheLatestOfAllThree(Due due) {
        SectionHouse x = new SectionHouse();
        Due.system(x, "classes 9;");
        due.is("of system()", x.fault(0) * 100 + x.fault(1), 208);
        Due.law(x, "bar z;bar f;");
        due.is("of law()", x.fault(0) * 100 + x.fault(1), 210);
        Due.word(x, "fff?", 0);
        due.is("of word()", x.fault(0) * 100 + x.fault(1), 103);
        Due.system(x, "classes 2;");
        due.is("of system() again", x.fault(0) * 100 + x.fault(1), 410);
    }

    static void promise07ForgottenBySystemThatGoes(Due due) {
        SectionHouse x = new SectionHouse();
        Due.word(x, "?", 0);
        Due.system(x, Due.TWO);
        due.is("fault(0)", x.fault(0), 0);
        due.is("fault(1)", x.fault(1), -1);
    }

    static void promise07ForgottenByLawThatGoes(Due due) {
        SectionHouse x = new SectionHouse();
        Due.word(x, "?", 0);
        Due.law(x, "bar z;");
        due.is("fault(0)", x.fault(0), 0);
        due.is("fault(1)", x.fault(1), -1);
    }

    static void promise07ForgottenByWordThatGoes(Due due) {
        SectionHouse x = new SectionHouse();
        Due.word(x, "?", 0);
        Due.word(x, "f", 0);
        due.is("fault(0)", x.fault(0), 0);
        due.is("fault(1)", x.fault(1), -1);
    }

    static void promise07OtherCallsKeepIt(Due due) {
        SectionHouse x = Due.sections();
        Due.word(x, "ff?", 1);
        x.feed(0, 0, 0, 0, 0);
        x.end(9);
        x.person(0);
        x.person(7);
        x.tell(0, 9);
        x.day(3);
        x.view(9);
        x.is(2);
        x.systems(2);
        x.image(0);
        x.again(1);
        due.is("fault(0)", x.fault(0), 1);
        due.is("fault(1)", x.fault(1), 2);
    }
}
