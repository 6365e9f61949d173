/** Boundary cases of promises 37 and 38: images of all that is told. */
final class EdgeImage {
    private EdgeImage() {
    }

    // ---- promise 37: image

    static void promise37ThreeImages(Due due) {
        SectionHouse x = new SectionHouse();
        for (int k = 0; k < 3; k++) {
            due.is("image(" + k + ")", x.image(k), true);
        }
    }

    static void promise37AnotherNumber(Due due) {
        SectionHouse x = new SectionHouse();
        due.is("image(3)", x.image(3), false);
        due.is("image(-1)", x.image(-1), false);
        for (int k : Due.FAR) {
            due.is("image(" + k + ")", x.image(k), false);
        }
        for (int k = 0; k < 3; k++) {
            due.is("again(" + k + ")", x.again(k), false);
        }
    }

    static void promise37ALaterOneTakesTheEarlierOnesPlace(Due due) {
        SectionHouse x = new SectionHouse();
        x.image(0);
        x.person(1);
        due.is("image(0) again", x.image(0), true);
        x.person(1);
        x.again(0);
        due.is("count(3)", x.count(3), 1);
    }

    static void promise37AnImageChangesNothing(Due due) {
        SectionHouse x = Due.people(Due.sections(), "01");
        x.wed(1, 0);
        x.day(4);
        x.view(2);
        Due.word(x, "f?", 1);
        x.feed(0, 0, 0, 0, 0);
        x.image(1);
        due.is("count(0)", x.count(0), 4);
        due.is("count(3)", x.count(3), 2);
        due.is("count(4)", x.count(4), 1);
        due.is("count(6)", x.count(6), 4);
        due.is("count(7)", x.count(7), 2);
        due.is("fault(1)", x.fault(1), 1);
        due.is("the tape", x.end(20), 20);
    }

    static void promise37WhatIsToldLaterDoesNotShowInIt(Due due) {
        SectionHouse x = Due.people(Due.sections(), "010");
        x.image(0);
        x.parents(2, 0, 1);
        x.wed(1, 0);
        x.tell(0, 3);
        x.again(0);
        due.is("parents", x.tells(2, 1), -1);
        due.is("weddings", x.count(4), 0);
        due.is("tellings", x.count(5), 0);
        due.is("families", x.count(8), 3);
        due.is("classes", x.tells(0, 4), 15);
    }

    static void promise37TheTapeToo(Due due) {
        SectionHouse x = new SectionHouse();
        Due.tape(x, "ff?");
        x.image(0);
        x.end(0);
        Due.tape(x, "mmmm");
        x.again(0);
        due.is("end(4)", x.end(4), -1);
        x.word(1);
        due.is("the old bytes' fault", x.fault(0), 1);
        due.is("its place", x.fault(1), 2);
    }

    static void promise37AFullTape(Due due) {
        SectionHouse x = new SectionHouse();
        Due.tape(x, Due.times(" ", 394) + "bar z;");
        x.image(2);
        due.is("law()", x.law(), 1);
        due.is("law() of nothing", x.law(), 0);
        x.again(2);
        due.is("feed", x.feed(0, 0, 0, 0, 0), -1);
        due.is("law() again", x.law(), 1);
    }

    static void promise37TheFaultToo(Due due) {
        SectionHouse x = new SectionHouse();
        Due.word(x, "ff?", 1);
        x.image(0);
        x.law();
        due.is("fault(0)", x.fault(0), 0);
        x.again(0);
        due.is("fault(0) again", x.fault(0), 1);
        due.is("fault(1) again", x.fault(1), 2);
        x.image(0);
        x.law();
        x.image(1);
        x.again(0);
        x.again(1);
        due.is("fault(0) of image 1", x.fault(0), 0);
        due.is("fault(1) of image 1", x.fault(1), -1);
    }

    // ---- promise 38: again

    static void promise38NoSuchImage(Due due) {
        SectionHouse x = new SectionHouse();
        x.image(1);
        due.is("again(0)", x.again(0), false);
        due.is("again(2)", x.again(2), false);
        due.is("again(3)", x.again(3), false);
        due.is("again(-1)", x.again(-1), false);
        for (int k : Due.FAR) {
            due.is("again(" + k + ")", x.again(k), false);
        }
        due.is("again(1)", x.again(1), true);
    }

    static void promise38ARefusedOneChangesNothing(Due due) {
        SectionHouse x = Due.people(Due.sections(), "01");
        x.day(4);
        x.again(0);
        x.again(3);
        due.is("count(0)", x.count(0), 4);
        due.is("count(3)", x.count(3), 2);
        due.is("count(6)", x.count(6), 4);
    }

    static void promise38AsOftenAsOneLikes(Due due) {
        SectionHouse x = new SectionHouse();
        x.person(0);
        x.image(0);
        for (int i = 0; i < 3; i++) {
            x.person(1);
            due.is("again(0)", x.again(0), true);
            due.is("count(3)", x.count(3), 1);
        }
    }

    static void promise38NewComesAgain(Due due) {
        SectionHouse x = new SectionHouse();
        x.image(0);
        Due.people(x, "010");
        Due.system(x, Due.SECTIONS);
        Due.law(x, "must z;");
        Due.word(x, "f", 1);
        x.wed(1, 0);
        x.day(5);
        x.parents(2, 0, 1);
        x.tell(0, 0);
        x.view(5);
        x.again(0);
        for (int what = 0; what < 10; what++) {
            due.is("count(" + what + ")", x.count(what), what == 7 ? -1 : 0);
        }
        due.is("broken()", x.broken(), -1);
        due.is("weds(0)", x.weds(0), -1);
        due.is("systems(2)", x.systems(2), 2);
        due.is("quarrel(0)", x.quarrel(0), -1);
        due.is("turnsOf()", x.turnsOf(), -1);
    }

    static void promise38TheDayGoesBack(Due due) {
        SectionHouse x = new SectionHouse();
        x.day(3);
        x.image(0);
        x.day(999);
        x.again(0);
        due.is("count(6)", x.count(6), 3);
        due.is("day(2)", x.day(2), false);
        due.is("day(4)", x.day(4), true);
    }

    static void promise38TheViewGoesBack(Due due) {
        SectionHouse x = Due.people(Due.sections(), "1");
        x.tell(0, 0);
        x.day(3);
        x.tell(0, 1);
        x.view(0);
        x.image(0);
        x.view(-1);
        due.is("NOW", x.tells(0, 4), 0);
        x.again(0);
        due.is("count(7)", x.count(7), 0);
        due.is("day 0", x.tells(0, 4), 1);
    }

    static void promise38WhatWasFullHasRoomAgain(Due due) {
        SectionHouse x = Due.people(new SectionHouse(), Due.times("0", 12) + Due.times("1", 11));
        for (int i = 0; i < 23; i++) {
            x.wed(12 + i / 12, i % 12);
        }
        for (int k = 0; k < 59; k++) {
            x.tell(0, 0);
        }
        for (int k = 0; k < 7; k++) {
            Due.word(x, "f", 1);
        }
        x.image(0);
        for (int round = 0; round < 2; round++) {
            due.is("the 24th person", x.person(1), 23);
            due.is("a 25th", x.person(1), -1);
            due.is("the 24th wedding", x.wed(14, 0), 24);
            due.is("a 25th", x.wed(14, 1), -1);
            due.is("the 60th telling", x.tell(0, 0), 59);
            due.is("a 61st", x.tell(0, 0), -1);
            due.is("the eighth word", Due.word(x, "f", 1), 7);
            due.is("a ninth", Due.word(x, "f", 1), -2);
            x.again(0);
        }
    }

    static void promise38ParentsCanBeToldAgain(Due due) {
        SectionHouse x = Due.people(new SectionHouse(), "0101");
        x.image(0);
        x.parents(3, 0, 1);
        x.again(0);
        due.is("others", x.parents(3, 2, -1), true);
        due.is("mother", x.tells(3, 1), 2);
        due.is("father", x.tells(3, 2), -1);
    }

    static void promise38TheSystemAndWhatFollowsFromIt(Due due) {
        SectionHouse x = Due.people(Due.sections(), "01");
        Due.word(x, "w", 1);
        x.tell(1, 3);
        x.wed(1, 0);
        x.image(0);
        due.is("turnsOf()", x.turnsOf(), 4);
        Due.system(x, Due.systemText(new int[] {1, 2, 0}, new int[] {1, 0, 2}));
        due.is("turnsOf() of another one", x.turnsOf(), 6);
        due.is("tells(0, 4) by it", x.tells(0, 4), 0);
        x.again(0);
        due.is("turnsOf() again", x.turnsOf(), 4);
        due.is("tells(0, 4) again", x.tells(0, 4), 4);
        due.is("weds(3) again", x.weds(3), 2);
        due.is("child(3, true) again", x.child(3, true), 0);
        due.is("letter(0, 0) again", x.letter(0, 0), 7);
        due.is("brides(1) again", x.brides(1), 1);
    }

    static void promise38TheLawAndWhatFollowsFromIt(Due due) {
        SectionHouse x = Due.sections();
        Due.law(x, "same s b;");
        x.image(0);
        due.is("systems(3)", x.systems(3), 2);
        Due.law(x, "must w;must z;");
        due.is("systems(3) by another one", x.systems(3), 0);
        x.again(0);
        due.is("count(1) again", x.count(1), 1);
        due.is("broken() again", x.broken(), 0);
        due.is("systems(3) again", x.systems(3), 2);
        due.is("kinds(3) again", x.kinds(3), 1);
    }

    /** From one beginning, image 0, two stories are told in the same places: the first one is image 1. */
    private static SectionHouse begun() {
        SectionHouse x = Due.people(Due.sections(), "010101");
        x.image(0);
        return x;
    }

    static void promise38SexesThoughOthersCame(Due due) {
        SectionHouse x = new SectionHouse();
        x.image(0);
        Due.people(x, "0110");
        x.image(1);
        x.again(0);
        Due.people(x, "1001");
        x.again(1);
        int[] sexes = {0, 1, 1, 0};
        for (int p = 0; p < 4; p++) {
            due.is("tells(" + p + ", 0)", x.tells(p, 0), sexes[p]);
        }
    }

    static void promise38WordsThoughOthersCame(Due due) {
        SectionHouse x = begun();
        Due.word(x, "mbd", 1);
        x.image(1);
        x.again(0);
        Due.word(x, "s", 0);
        x.again(1);
        due.is("about(0, 1)", x.about(0, 1), 1);
        due.is("about(0, 2)", x.about(0, 2), 3);
        due.is("about(0, 3)", x.about(0, 3), 4);
    }

    static void promise38ParentsThoughOthersCame(Due due) {
        SectionHouse x = begun();
        x.parents(5, 0, 1);
        x.image(1);
        x.again(0);
        x.day(3);
        x.parents(5, 2, 3);
        x.again(1);
        due.is("mother", x.tells(5, 1), 0);
        due.is("father", x.tells(5, 2), 1);
        x.day(1);
        x.view(0);
        due.is("mother on day 0", x.tells(5, 1), 0);
    }

    static void promise38WeddingsThoughOthersCame(Due due) {
        SectionHouse x = begun();
        x.wed(1, 0);
        x.image(1);
        x.again(0);
        x.day(3);
        x.wed(3, 2);
        x.again(1);
        due.is("tells(1, 3)", x.tells(1, 3), 0);
        due.is("tells(3, 3)", x.tells(3, 3), 3);
        due.is("wed(1, 0)", x.wed(1, 0), -1);
        x.day(1);
        x.view(0);
        due.is("tells(1, 3) on day 0", x.tells(1, 3), 0);
        due.is("wed(3, 2)", x.wed(3, 2), 2);
    }

    static void promise38TellingsThoughOthersCame(Due due) {
        SectionHouse x = begun();
        x.day(1);
        x.tell(4, 2);
        x.image(1);
        x.again(0);
        x.day(3);
        x.tell(5, 3);
        x.again(1);
        due.is("told(0, 0)", x.told(0, 0), 4);
        due.is("told(0, 1)", x.told(0, 1), 2);
        due.is("told(0, 2)", x.told(0, 2), 1);
        due.is("tells(4, 4)", x.tells(4, 4), 4);
        due.is("tells(5, 4)", x.tells(5, 4), 15);
    }

    static void promise38ImagesStayWhenOneComesAgain(Due due) {
        SectionHouse x = new SectionHouse();
        for (int k = 0; k < 3; k++) {
            x.image(k);
            x.person(k & 1);
        }
        for (int k : new int[] {2, 0, 1, 2, 1, 0}) {
            due.is("again(" + k + ")", x.again(k), true);
            due.is("count(3) of image " + k, x.count(3), k);
        }
        x.again(2);
        due.is("sexes of image 2", x.tells(0, 0) * 2 + x.tells(1, 0), 1);
    }
}
