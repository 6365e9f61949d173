/** Boundary cases of promises 24 to 29: persons, parents, weddings, tellings, the day and the view. */
final class EdgePeople {
    private EdgePeople() {
    }

    /** Twelve women, 0 to 11, and twelve men, 12 to 23. */
    private static SectionHouse full() {
        return Due.people(new SectionHouse(), Due.times("0", 12) + Due.times("1", 12));
    }

    private static SectionHouse with24Weddings() {
        SectionHouse x = full();
        for (int i = 0; i < 24; i++) {
            x.wed(12 + i / 12, i % 12);
        }
        return x;
    }

    private static SectionHouse with60Tellings() {
        SectionHouse x = Due.people(new SectionHouse(), "01");
        for (int k = 0; k < 60; k++) {
            x.tell(0, k % 8);
        }
        return x;
    }

    // ---- promise 24: person

    static void promise24TwentyFourAreTheMost(Due due) {
        SectionHouse x = new SectionHouse();
        for (int p = 0; p < 24; p++) {
            due.is("person", x.person(p & 1), p);
        }
        due.is("count(3)", x.count(3), 24);
    }

    static void promise24A25th(Due due) {
        SectionHouse x = full();
        due.is("person(0)", x.person(0), -1);
        due.is("person(1)", x.person(1), -1);
        due.is("person(2)", x.person(2), -1);
        due.is("count(3)", x.count(3), 24);
        due.is("tells(24, 0)", x.tells(24, 0), -2);
        due.is("the last one stays", x.tells(23, 0), 1);
    }

    static void promise24AnotherSex(Due due) {
        SectionHouse x = new SectionHouse();
        due.is("person(2)", x.person(2), -1);
        due.is("person(-1)", x.person(-1), -1);
        for (int sex : Due.FAR) {
            due.is("person(" + sex + ")", x.person(sex), -1);
        }
        due.is("count(3)", x.count(3), 0);
        due.is("the next one's number", x.person(1), 0);
    }

    static void promise24WomenAre0AndMen1(Due due) {
        SectionHouse x = Due.people(new SectionHouse(), "01");
        due.is("a woman", x.tells(0, 0), 0);
        due.is("a man", x.tells(1, 0), 1);
    }

    static void promise24ANewOneIsOfItsOwnFamily(Due due) {
        SectionHouse x = Due.people(Due.sections(), "01");
        x.wed(1, 0);
        due.is("count(8)", x.count(8), 1);
        x.person(0);
        due.is("count(8) with one more", x.count(8), 2);
        due.is("its least one", x.tells(2, 3), 2);
        due.is("its classes", x.tells(2, 4), 15);
    }

    // ---- promise 25: parents

    static void promise25NoSuchChild(Due due) {
        SectionHouse x = Due.people(new SectionHouse(), "010");
        due.is("parents(3, 0, 1)", x.parents(3, 0, 1), false);
        due.is("parents(-1, 0, 1)", x.parents(-1, 0, 1), false);
        for (int p : Due.FAR) {
            due.is("parents(" + p + ", 0, 1)", x.parents(p, 0, 1), false);
        }
    }

    static void promise25NoSuchMother(Due due) {
        SectionHouse x = Due.people(new SectionHouse(), "010");
        due.is("parents(2, 3, 1)", x.parents(2, 3, 1), false);
        for (int p : Due.FAR) {
            due.is("parents(2, " + p + ", 1)", x.parents(2, p, 1), false);
            due.is("parents(2, " + p + ", -1)", x.parents(2, p, -1), false);
        }
        due.is("tells(2, 2)", x.tells(2, 2), -1);
    }

    static void promise25NoSuchFather(Due due) {
        SectionHouse x = Due.people(new SectionHouse(), "010");
        due.is("parents(2, 0, 3)", x.parents(2, 0, 3), false);
        for (int p : Due.FAR) {
            due.is("parents(2, 0, " + p + ")", x.parents(2, 0, p), false);
            due.is("parents(2, -1, " + p + ")", x.parents(2, -1, p), false);
        }
        due.is("tells(2, 1)", x.tells(2, 1), -1);
    }

    static void promise25BothNone(Due due) {
        SectionHouse x = Due.people(new SectionHouse(), "010");
        due.is("parents(2, -1, -1)", x.parents(2, -1, -1), false);
        due.is("they can be told yet", x.parents(2, 0, 1), true);
    }

    static void promise25OneOfBothIsNone(Due due) {
        SectionHouse x = Due.people(new SectionHouse(), "0101");
        due.is("a mother alone", x.parents(2, 0, -1), true);
        due.is("tells(2, 1)", x.tells(2, 1), 0);
        due.is("tells(2, 2)", x.tells(2, 2), -1);
        due.is("a father alone", x.parents(3, -1, 1), true);
        due.is("tells(3, 1)", x.tells(3, 1), -1);
        due.is("tells(3, 2)", x.tells(3, 2), 1);
    }

    static void promise25TheMotherIsAWoman(Due due) {
        SectionHouse x = Due.people(new SectionHouse(), "010");
        due.is("parents(2, 1, -1)", x.parents(2, 1, -1), false);
        due.is("parents(2, 1, 1)", x.parents(2, 1, 1), false);
    }

    static void promise25TheFatherIsAMan(Due due) {
        SectionHouse x = Due.people(new SectionHouse(), "010");
        due.is("parents(2, -1, 0)", x.parents(2, -1, 0), false);
        due.is("parents(2, 0, 0)", x.parents(2, 0, 0), false);
    }

    static void promise25TheMotherIsAheadOfIt(Due due) {
        SectionHouse x = Due.people(new SectionHouse(), "000");
        due.is("she is behind it", x.parents(1, 2, -1), false);
        due.is("she is itself", x.parents(1, 1, -1), false);
        due.is("she is just ahead of it", x.parents(1, 0, -1), true);
    }

    static void promise25TheFatherIsAheadOfIt(Due due) {
        SectionHouse x = Due.people(new SectionHouse(), "111");
        due.is("he is behind it", x.parents(1, -1, 2), false);
        due.is("he is itself", x.parents(1, -1, 1), false);
        due.is("he is just ahead of it", x.parents(1, -1, 0), true);
    }

    static void promise25TheFirstPersonHasNone(Due due) {
        SectionHouse x = Due.people(new SectionHouse(), "010");
        due.is("parents(0, 2, 1)", x.parents(0, 2, 1), false);
        due.is("parents(0, 0, -1)", x.parents(0, 0, -1), false);
    }

    static void promise25TheLastPersonOf24(Due due) {
        SectionHouse x = full();
        due.is("parents(23, 11, 22)", x.parents(23, 11, 22), true);
        due.is("tells(23, 2)", x.tells(23, 2), 22);
    }

    static void promise25ToldOnce(Due due) {
        SectionHouse x = Due.people(new SectionHouse(), "01010");
        due.is("told", x.parents(4, 0, 1), true);
        due.is("the same again", x.parents(4, 0, 1), false);
        due.is("others", x.parents(4, 2, 3), false);
        due.is("tells(4, 1)", x.tells(4, 1), 0);
        due.is("tells(4, 2)", x.tells(4, 2), 1);
    }

    static void promise25OneToldTheOtherCannotBeToldLater(Due due) {
        SectionHouse x = Due.people(new SectionHouse(), "0101");
        x.parents(2, 0, -1);
        due.is("the father later", x.parents(2, -1, 1), false);
        x.parents(3, -1, 1);
        due.is("the mother later", x.parents(3, 0, -1), false);
        due.is("tells(3, 1)", x.tells(3, 1), -1);
    }

    static void promise25ToldOnceWhateverTheView(Due due) {
        SectionHouse x = Due.people(new SectionHouse(), "010");
        x.day(5);
        x.parents(2, 0, 1);
        x.view(4);
        due.is("not seen", x.tells(2, 1), -1);
        due.is("told all the same", x.parents(2, 0, 1), false);
    }

    static void promise25ARefusedOneTakesNoTurn(Due due) {
        SectionHouse x = Due.people(new SectionHouse(), "010");
        x.parents(2, 1, 0);
        x.parents(2, 0, 0);
        x.parents(2, 1, 1);
        due.is("count(8)", x.count(8), 3);
        due.is("it can be told yet", x.parents(2, 0, 1), true);
    }

    // ---- promise 26: wed

    static void promise26TwentyFourAreTheMost(Due due) {
        SectionHouse x = full();
        for (int i = 0; i < 24; i++) {
            due.is("wedding", x.wed(12 + i / 12, i % 12), i + 1);
        }
        due.is("count(4)", x.count(4), 24);
    }

    static void promise26A25th(Due due) {
        SectionHouse x = with24Weddings();
        due.is("wed(14, 0)", x.wed(14, 0), -1);
        due.is("one that is wed", x.wed(12, 0), -1);
        due.is("count(4)", x.count(4), 24);
        due.is("14 is alone", x.tells(14, 3), 14);
    }

    static void promise26The24thCounts(Due due) {
        SectionHouse x = full();
        for (int i = 0; i < 23; i++) {
            x.wed(12 + i / 12, i % 12);
        }
        due.is("families of the others and one", x.count(8), 11);
        due.is("the 24th", x.wed(14, 11), 24);
        due.is("families then", x.count(8), 10);
    }

    static void promise26NoSuchMan(Due due) {
        SectionHouse x = Due.people(new SectionHouse(), "01");
        due.is("wed(2, 0)", x.wed(2, 0), -1);
        due.is("wed(-1, 0)", x.wed(-1, 0), -1);
        due.is("wed(0, 0)", x.wed(0, 0), -1);
        for (int p : Due.FAR) {
            due.is("wed(" + p + ", 0)", x.wed(p, 0), -1);
        }
        due.is("count(4)", x.count(4), 0);
    }

    static void promise26NoSuchWoman(Due due) {
        SectionHouse x = Due.people(new SectionHouse(), "01");
        due.is("wed(1, 2)", x.wed(1, 2), -1);
        due.is("wed(1, -1)", x.wed(1, -1), -1);
        due.is("wed(1, 1)", x.wed(1, 1), -1);
        for (int p : Due.FAR) {
            due.is("wed(1, " + p + ")", x.wed(1, p), -1);
        }
        due.is("count(4)", x.count(4), 0);
    }

    static void promise26ManAndWomanTheOtherWayRound(Due due) {
        SectionHouse x = Due.people(new SectionHouse(), "01");
        due.is("wed(0, 1)", x.wed(0, 1), -1);
        due.is("wed(1, 0)", x.wed(1, 0), 1);
    }

    static void promise26TheseAreWed(Due due) {
        SectionHouse x = Due.people(new SectionHouse(), "0101");
        x.wed(1, 0);
        x.wed(3, 2);
        due.is("wed(1, 0) again", x.wed(1, 0), -1);
        due.is("wed(3, 2) again", x.wed(3, 2), -1);
        due.is("count(4)", x.count(4), 2);
    }

    static void promise26OneOfThemIsWedToAnother(Due due) {
        SectionHouse x = Due.people(new SectionHouse(), "0101");
        x.wed(1, 0);
        due.is("her other man", x.wed(3, 0), 2);
        due.is("his other wife", x.wed(1, 2), 3);
        due.is("the other two", x.wed(3, 2), 4);
    }

    static void promise26WedWhateverTheView(Due due) {
        SectionHouse x = Due.people(new SectionHouse(), "01");
        x.day(5);
        x.wed(1, 0);
        x.view(4);
        due.is("not seen", x.count(8), 2);
        due.is("wed all the same", x.wed(1, 0), -1);
        due.is("count(4) in all", x.count(4), 1);
    }

    static void promise26TheLastOnesOf24(Due due) {
        SectionHouse x = full();
        due.is("wed(23, 11)", x.wed(23, 11), 1);
        due.is("tells(23, 3)", x.tells(23, 3), 11);
        due.is("wed(24, 11)", x.wed(24, 11), -1);
    }

    // ---- promise 27: tell

    static void promise27SixtyAreTheMost(Due due) {
        SectionHouse x = Due.people(new SectionHouse(), "01");
        for (int k = 0; k < 60; k++) {
            due.is("telling", x.tell(k & 1, 0), k);
        }
        due.is("count(5)", x.count(5), 60);
    }

    static void promise27A61st(Due due) {
        SectionHouse x = with60Tellings();
        due.is("tell(1, 0)", x.tell(1, 0), -1);
        due.is("tell(0, 3), told before", x.tell(0, 3), -1);
        due.is("count(5)", x.count(5), 60);
        due.is("told(60, 0)", x.told(60, 0), -2);
        due.is("told(59, 1)", x.told(59, 1), 3);
    }

    static void promise27The60thCounts(Due due) {
        SectionHouse x = Due.people(Due.sections(), "01");
        for (int k = 0; k < 59; k++) {
            x.tell(0, 0);
        }
        due.is("nothing is wrong", x.wrongs(), 0);
        due.is("the 60th", x.tell(0, 1), 59);
        due.is("it is wrong", x.wrong(0), 59);
    }

    static void promise27NoSuchPerson(Due due) {
        SectionHouse x = Due.people(new SectionHouse(), "01");
        due.is("tell(2, 0)", x.tell(2, 0), -1);
        due.is("tell(-1, 0)", x.tell(-1, 0), -1);
        for (int p : Due.FAR) {
            due.is("tell(" + p + ", 0)", x.tell(p, 0), -1);
        }
        due.is("tell(0, 0) of nobody", new SectionHouse().tell(0, 0), -1);
        due.is("count(5)", x.count(5), 0);
    }

    static void promise27NoSuchClass(Due due) {
        SectionHouse x = Due.people(new SectionHouse(), "01");
        due.is("tell(0, 8)", x.tell(0, 8), -1);
        due.is("tell(0, -1)", x.tell(0, -1), -1);
        for (int kind : Due.FAR) {
            due.is("tell(0, " + kind + ")", x.tell(0, kind), -1);
        }
        due.is("count(5)", x.count(5), 0);
    }

    static void promise27Classes0To7WhateverTheSystem(Due due) {
        SectionHouse x = Due.people(new SectionHouse(), "01");
        due.is("tell(0, 7) without a system", x.tell(0, 7), 0);
        Due.system(x, Due.TWO);
        due.is("tell(1, 7) of two classes", x.tell(1, 7), 1);
        due.is("tell(1, 0)", x.tell(1, 0), 2);
        due.is("told(1, 1)", x.told(1, 1), 7);
    }

    static void promise27TheSameToldTwice(Due due) {
        SectionHouse x = Due.people(new SectionHouse(), "01");
        due.is("once", x.tell(0, 3), 0);
        due.is("twice", x.tell(0, 3), 1);
    }

    static void promise27TheLastPersonOf24(Due due) {
        SectionHouse x = full();
        due.is("tell(23, 7)", x.tell(23, 7), 0);
        due.is("told(0, 0)", x.told(0, 0), 23);
        due.is("tell(24, 7)", x.tell(24, 7), -1);
    }

    // ---- promise 28: day

    static void promise28TheSameDayAgain(Due due) {
        SectionHouse x = new SectionHouse();
        due.is("day(0)", x.day(0), true);
        x.day(7);
        due.is("day(7) again", x.day(7), true);
        due.is("count(6)", x.count(6), 7);
    }

    static void promise28OneEarlier(Due due) {
        SectionHouse x = new SectionHouse();
        due.is("day(-1)", x.day(-1), false);
        x.day(7);
        due.is("day(6)", x.day(6), false);
        due.is("day(0)", x.day(0), false);
        due.is("count(6)", x.count(6), 7);
    }

    static void promise28OneLater(Due due) {
        SectionHouse x = new SectionHouse();
        due.is("day(1)", x.day(1), true);
        due.is("count(6)", x.count(6), 1);
    }

    static void promise28Day999IsTheLast(Due due) {
        SectionHouse x = new SectionHouse();
        due.is("day(1000)", x.day(1000), false);
        due.is("count(6)", x.count(6), 0);
        due.is("day(999)", x.day(999), true);
        due.is("day(999) again", x.day(999), true);
        due.is("day(1000) then", x.day(1000), false);
        due.is("day(998) then", x.day(998), false);
        due.is("count(6) then", x.count(6), 999);
    }

    static void promise28FarNumbers(Due due) {
        SectionHouse x = new SectionHouse();
        for (int day : Due.FAR) {
            due.is("day(" + day + ")", x.day(day), false);
        }
        due.is("count(6)", x.count(6), 0);
    }

    static void promise28WhatIsToldIsOfTheDayOfNow(Due due) {
        SectionHouse x = Due.people(new SectionHouse(), "0");
        x.tell(0, 0);
        x.day(999);
        x.tell(0, 0);
        x.day(1000);
        x.tell(0, 0);
        due.is("told(0, 2)", x.told(0, 2), 0);
        due.is("told(1, 2)", x.told(1, 2), 999);
        due.is("told(2, 2)", x.told(2, 2), 999);
    }

    static void promise28TheViewStaysWhenDaysGoOn(Due due) {
        SectionHouse x = new SectionHouse();
        x.view(0);
        x.day(5);
        due.is("count(7)", x.count(7), 0);
        x.view(-1);
        x.day(6);
        due.is("count(7) of NOW", x.count(7), -1);
    }

    // ---- promise 29: view

    static void promise29TheDayOfNow(Due due) {
        SectionHouse x = new SectionHouse();
        due.is("view(0)", x.view(0), true);
        x.day(999);
        due.is("view(999)", x.view(999), true);
        due.is("count(7)", x.count(7), 999);
    }

    static void promise29LaterThanNow(Due due) {
        SectionHouse x = new SectionHouse();
        due.is("view(1)", x.view(1), false);
        x.day(7);
        due.is("view(8)", x.view(8), false);
        x.day(999);
        due.is("view(1000)", x.view(1000), false);
        due.is("count(7)", x.count(7), -1);
    }

    static void promise29NoneIsNow(Due due) {
        SectionHouse x = new SectionHouse();
        x.view(0);
        due.is("view(-1)", x.view(-1), true);
        due.is("count(7)", x.count(7), -1);
    }

    static void promise29NoDay(Due due) {
        SectionHouse x = new SectionHouse();
        x.view(0);
        due.is("view(-2)", x.view(-2), false);
        for (int day : Due.FAR) {
            due.is("view(" + day + ")", x.view(day), false);
        }
        due.is("count(7)", x.count(7), 0);
    }

    static void promise29ARefusedViewChangesNothing(Due due) {
        SectionHouse x = Due.people(Due.sections(), "1");
        x.day(3);
        x.view(2);
        x.tell(0, 1);
        x.view(4);
        x.view(-2);
        due.is("count(7)", x.count(7), 2);
        due.is("the telling of day 3 is not seen", x.tells(0, 4), 15);
    }

    static void promise29AViewOfNowSeesWhatIsToldLaterThatDay(Due due) {
        SectionHouse x = Due.people(Due.sections(), "1");
        x.day(3);
        x.view(3);
        x.tell(0, 1);
        due.is("told by the end of that day", x.tells(0, 4), 2);
        x.day(4);
        x.tell(0, 2);
        due.is("told on the day behind it", x.tells(0, 4), 2);
        x.view(-1);
        due.is("NOW", x.tells(0, 4), 0);
    }

    static void promise29OneDayAheadTheDayAndBehind(Due due) {
        SectionHouse x = Due.people(Due.sections(), "1");
        x.day(3);
        x.tell(0, 1);
        x.day(4);
        x.view(2);
        due.is("the day ahead", x.count(9), 0);
        x.view(3);
        due.is("the day", x.count(9), 1);
        x.view(4);
        due.is("the day behind", x.count(9), 1);
    }

    static void promise29PersonsAreThereInEveryView(Due due) {
        SectionHouse x = new SectionHouse();
        x.day(5);
        x.person(1);
        x.view(0);
        due.is("count(3)", x.count(3), 1);
        due.is("count(8)", x.count(8), 1);
        due.is("tells(0, 0)", x.tells(0, 0), 1);
    }
}
