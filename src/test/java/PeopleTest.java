/** Promises 24 to 36: persons, what is told of them and when, and what follows. */
public final class PeopleTest {
    private static final Due DUE = new Due("PeopleTest");

    public static void main(String[] args) {
        persons();
        parents();
        weddings();
        tellings();
        days();
        views();
        families();
        possible();
        possibleBySystem();
        quarrels();
        wrongs();
        wrongsOfTies();
        wrongsByTheLeast();
        misfits();
        mayWed();
        mayWedInOneFamily();
        counts();
        DUE.finish();
    }

    private static void persons() {
        SectionHouse x = new SectionHouse();
        DUE.is("person(2)", x.person(2), -1);
        DUE.is("person(-1)", x.person(-1), -1);
        for (int p = 0; p < 24; p++) {
            DUE.is("person " + p, x.person(p % 3 == 0 ? 1 : 0), p);
        }
        DUE.is("a 25th", x.person(0), -1);
        DUE.is("count(3)", x.count(3), 24);
        DUE.is("tells(0, 0)", x.tells(0, 0), 1);
        DUE.is("tells(1, 0)", x.tells(1, 0), 0);
        DUE.is("tells(23, 0)", x.tells(23, 0), 0);
        DUE.is("tells(24, 0)", x.tells(24, 0), -2);
        DUE.is("tells(-1, 0)", x.tells(-1, 0), -2);
        DUE.is("tells(0, 5)", x.tells(0, 5), -2);
        DUE.is("tells(0, -1)", x.tells(0, -1), -2);
    }

    private static void parents() {
        SectionHouse x = Due.people(new SectionHouse(), "010101");
        DUE.is("both none", x.parents(2, -1, -1), false);
        DUE.is("no such child", x.parents(6, 0, 1), false);
        DUE.is("child -1", x.parents(-1, 0, 1), false);
        DUE.is("no such mother", x.parents(2, 6, 1), false);
        DUE.is("mother -2", x.parents(2, -2, 1), false);
        DUE.is("no such father", x.parents(2, 0, 7), false);
        DUE.is("father -2", x.parents(2, 0, -2), false);
        DUE.is("mother no woman", x.parents(2, 1, -1), false);
        DUE.is("father no man", x.parents(2, -1, 0), false);
        DUE.is("mother behind it", x.parents(1, 2, -1), false);
        DUE.is("father behind it", x.parents(2, 0, 3), false);
        DUE.is("its own mother", x.parents(2, 2, -1), false);
        DUE.is("its own father", x.parents(3, -1, 3), false);
        DUE.is("nothing told yet", x.tells(2, 1), -1);
        DUE.is("both", x.parents(2, 0, 1), true);
        DUE.is("told already", x.parents(2, 0, 1), false);
        DUE.is("mother alone", x.parents(3, 2, -1), true);
        DUE.is("the father later", x.parents(3, -1, 1), false);
        DUE.is("father alone", x.parents(4, -1, 3), true);
        DUE.is("tells(2, 1)", x.tells(2, 1), 0);
        DUE.is("tells(2, 2)", x.tells(2, 2), 1);
        DUE.is("tells(3, 1)", x.tells(3, 1), 2);
        DUE.is("tells(3, 2)", x.tells(3, 2), -1);
        DUE.is("tells(4, 1)", x.tells(4, 1), -1);
        DUE.is("tells(4, 2)", x.tells(4, 2), 3);
        DUE.is("tells(0, 1)", x.tells(0, 1), -1);
    }

    private static void weddings() {
        SectionHouse x = Due.people(new SectionHouse(), "000001111100000");
        DUE.is("wed(5, 0)", x.wed(5, 0), 1);
        DUE.is("wed again", x.wed(5, 0), -1);
        DUE.is("wed(0, 5)", x.wed(0, 5), -1);
        DUE.is("wed(5, 6)", x.wed(5, 6), -1);
        DUE.is("wed(0, 1)", x.wed(0, 1), -1);
        DUE.is("wed(5, 15)", x.wed(5, 15), -1);
        DUE.is("wed(15, 0)", x.wed(15, 0), -1);
        DUE.is("wed(-1, 0)", x.wed(-1, 0), -1);
        DUE.is("wed(5, -1)", x.wed(5, -1), -1);
        DUE.is("another wife", x.wed(5, 1), 2);
        int there = 2;
        for (int man = 6; man < 10; man++) {
            for (int woman = 0; woman < 5 && there < 24; woman++) {
                there++;
                DUE.is("wedding " + there, x.wed(man, woman), there);
            }
        }
        DUE.is("the 23rd", x.wed(5, 10), 23);
        DUE.is("the 24th", x.wed(5, 11), 24);
        DUE.is("a 25th", x.wed(5, 12), -1);
        DUE.is("count(4)", x.count(4), 24);
    }

    private static void tellings() {
        SectionHouse x = Due.people(new SectionHouse(), "01");
        DUE.is("told(0, 0) of none", x.told(0, 0), -2);
        DUE.is("tell(2, 0)", x.tell(2, 0), -1);
        DUE.is("tell(-1, 0)", x.tell(-1, 0), -1);
        DUE.is("tell(0, 8)", x.tell(0, 8), -1);
        DUE.is("tell(0, -1)", x.tell(0, -1), -1);
        for (int k = 0; k < 60; k++) {
            x.day(k);
            DUE.is("telling " + k, x.tell(k % 2, k % 8), k);
        }
        DUE.is("a 61st", x.tell(0, 0), -1);
        DUE.is("count(5)", x.count(5), 60);
        x.view(3);
        for (int k = 0; k < 60; k += 7) {
            DUE.is("told(" + k + ", 0)", x.told(k, 0), k % 2);
            DUE.is("told(" + k + ", 1)", x.told(k, 1), k % 8);
            DUE.is("told(" + k + ", 2)", x.told(k, 2), k);
        }
        DUE.is("told(0, 3)", x.told(0, 3), -2);
        DUE.is("told(0, -1)", x.told(0, -1), -2);
        DUE.is("told(60, 0)", x.told(60, 0), -2);
        DUE.is("told(-1, 0)", x.told(-1, 0), -2);
        DUE.is("count(9) by the view", x.count(9), 4);
        DUE.is("count(5) in all", x.count(5), 60);
    }

    private static void days() {
        SectionHouse x = new SectionHouse();
        DUE.is("day(-1)", x.day(-1), false);
        DUE.is("day(0)", x.day(0), true);
        DUE.is("day(5)", x.day(5), true);
        DUE.is("day(4)", x.day(4), false);
        DUE.is("count(6)", x.count(6), 5);
        DUE.is("day(5) again", x.day(5), true);
        DUE.is("day(1000)", x.day(1000), false);
        DUE.is("day(max)", x.day(Integer.MAX_VALUE), false);
        DUE.is("day(999)", x.day(999), true);
        DUE.is("day(999) again", x.day(999), true);
        DUE.is("day(998)", x.day(998), false);
        DUE.is("count(6) at the end", x.count(6), 999);
    }

    private static void views() {
        SectionHouse x = Due.people(Due.sections(), "0101");
        x.day(2);
        DUE.is("view(3)", x.view(3), false);
        DUE.is("view(-2)", x.view(-2), false);
        DUE.is("view(2)", x.view(2), true);
        DUE.is("count(7)", x.count(7), 2);
        x.tell(1, 0);
        DUE.is("told on the day of the view", x.tells(1, 4), 1);
        x.day(3);
        x.tell(3, 1);
        x.wed(1, 0);
        x.parents(2, 0, 1);
        DUE.is("not seen: tells(3, 4)", x.tells(3, 4), 15);
        DUE.is("not seen: tells(0, 4)", x.tells(0, 4), 15);
        DUE.is("not seen: tells(2, 1)", x.tells(2, 1), -1);
        DUE.is("not seen: tells(2, 2)", x.tells(2, 2), -1);
        DUE.is("not seen: tells(1, 3)", x.tells(1, 3), 1);
        DUE.is("not seen: families", x.count(8), 4);
        DUE.is("not seen: tellings", x.count(9), 1);
        DUE.is("told all the same: wed", x.wed(1, 0), -1);
        DUE.is("told all the same: parents", x.parents(2, 0, 1), false);
        DUE.is("view(3) now", x.view(3), true);
        DUE.is("seen: tells(3, 4)", x.tells(3, 4), 2);
        DUE.is("seen: tells(0, 4)", x.tells(0, 4), 2);
        DUE.is("seen: tells(2, 1)", x.tells(2, 1), 0);
        DUE.is("seen: tells(2, 3)", x.tells(2, 3), 0);
        DUE.is("seen: families", x.count(8), 2);
        DUE.is("view(0)", x.view(0), true);
        DUE.is("day 0: tells(1, 4)", x.tells(1, 4), 15);
        DUE.is("view(4)", x.view(4), false);
        DUE.is("still day 0", x.count(7), 0);
        DUE.is("view(-1)", x.view(-1), true);
        DUE.is("now", x.count(7), -1);
        x.day(9);
        x.tell(2, 2);
        DUE.is("now sees all", x.count(9), 3);
    }

    private static void families() {
        SectionHouse x = Due.people(new SectionHouse(), "01010101");
        DUE.is("each its own", x.count(8), 8);
        DUE.is("tells(7, 3)", x.tells(7, 3), 7);
        x.wed(7, 6);
        DUE.is("a wedding joins", x.tells(7, 3), 6);
        x.parents(6, 2, -1);
        DUE.is("a mother joins", x.tells(7, 3), 2);
        x.parents(4, -1, 3);
        DUE.is("another family", x.tells(4, 3), 3);
        x.parents(5, 2, 3);
        DUE.is("a child joins both", x.tells(4, 3), 2);
        DUE.is("and 7", x.tells(7, 3), 2);
        DUE.is("count(8)", x.count(8), 3);
        x.wed(7, 0);
        DUE.is("a lesser one", x.tells(3, 3), 0);
        DUE.is("tells(1, 3)", x.tells(1, 3), 1);
        DUE.is("count(8) at last", x.count(8), 2);
        DUE.is("no system: tells(0, 4)", x.tells(0, 4), 0);
    }

    private static void possible() {
        // 0 mother, 1 father, 2 son, 3 his wife, 4 nobody's
        SectionHouse x = Due.people(Due.sections(), "01100");
        x.parents(2, 0, 1);
        x.wed(2, 3);
        for (int p = 0; p < 5; p++) {
            DUE.is("nothing told: tells(" + p + ", 4)", x.tells(p, 4), 15);
        }
        x.tell(3, 0);
        // she is of 0, so he of 1, his father of 3, his mother of 2
        DUE.is("wife", x.tells(3, 4), 1);
        DUE.is("son", x.tells(2, 4), 2);
        DUE.is("father", x.tells(1, 4), 8);
        DUE.is("mother", x.tells(0, 4), 4);
        DUE.is("nobody's", x.tells(4, 4), 15);
        x.tell(1, 3);
        DUE.is("agreed", x.tells(2, 4), 2);
        x.tell(0, 1);
        for (int p = 0; p < 4; p++) {
            DUE.is("disagreed: tells(" + p + ", 4)", x.tells(p, 4), 0);
        }
        DUE.is("nobody's still", x.tells(4, 4), 15);
    }

    private static void possibleBySystem() {
        SectionHouse x = Due.people(Due.sections(), "10");
        x.tell(0, 3);
        DUE.is("told 3 of four", x.tells(0, 4), 8);
        Due.system(x, Due.systemText(new int[] {1, 2, 0}, new int[] {0, 1, 2}));
        DUE.is("told 3 of three", x.tells(0, 4), 0);
        DUE.is("a quarrel", x.quarrel(0), 0);
        DUE.is("wrong", x.wrongs(), 1);
        DUE.is("another", x.tells(1, 4), 7);
        Due.system(x, Due.SECTIONS);
        DUE.is("told 3 of four again", x.tells(0, 4), 8);
    }

    private static void quarrels() {
        SectionHouse x = Due.people(new SectionHouse(), "0101010");
        x.tell(1, 0);
        x.tell(1, 1);
        DUE.is("no system: quarrel(0)", x.quarrel(0), -1);
        Due.system(x, Due.SECTIONS);
        DUE.is("quarrel(0)", x.quarrel(0), 1);
        DUE.is("quarrel(1) of one", x.quarrel(1), -1);
        x.wed(5, 4);
        x.tell(4, 0);
        x.tell(5, 0);
        DUE.is("quarrel(1)", x.quarrel(1), 4);
        DUE.is("quarrel(2)", x.quarrel(2), -1);
        DUE.is("quarrel(-1)", x.quarrel(-1), -1);
        DUE.is("quarrel(max)", x.quarrel(Integer.MAX_VALUE), -1);
        x.wed(1, 0);
        DUE.is("the least of it", x.quarrel(0), 0);
        DUE.is("the other one", x.quarrel(1), 4);
    }

    private static void wrongs() {
        SectionHouse x = Due.people(new SectionHouse(), "010");
        DUE.is("no system: wrongs()", x.wrongs(), -1);
        DUE.is("no system: wrong(0)", x.wrong(0), -1);
        Due.system(x, Due.SECTIONS);
        DUE.is("none told", x.wrongs(), 0);
        DUE.is("none told: wrong(0)", x.wrong(0), -1);
        x.wed(1, 0);
        x.tell(2, 3);
        x.tell(0, 1);
        x.tell(1, 1);
        x.tell(0, 1);
        x.tell(1, 0);
        x.tell(2, 5);
        x.tell(2, 3);
        // 0 of 1 and 1 of 0 go together; 2 is of 3
        DUE.is("wrongs()", x.wrongs(), 2);
        DUE.is("wrong(0)", x.wrong(0), 2);
        DUE.is("wrong(1)", x.wrong(1), 5);
        DUE.is("wrong(2)", x.wrong(2), -1);
        DUE.is("wrong(-1)", x.wrong(-1), -1);
        x.day(1);
        x.tell(2, 5);
        x.tell(2, 5);
        x.tell(1, 5);
        DUE.is("five is no class", x.wrongs(), 5);
        x.view(0);
        DUE.is("by the view", x.wrongs(), 2);
        DUE.is("by the view: wrong(2)", x.wrong(2), -1);
    }

    private static void wrongsOfTies() {
        SectionHouse x = Due.people(Due.sections(), "1");
        x.tell(0, 3);
        x.tell(0, 2);
        // one each: the least class stands
        DUE.is("a tie", x.wrongs(), 1);
        DUE.is("the least class stands", x.wrong(0), 0);
        x.tell(0, 3);
        DUE.is("no tie", x.wrong(0), 1);
        SectionHouse y = Due.people(Due.sections(), "1");
        y.tell(0, 7);
        DUE.is("none is right", y.wrongs(), 1);
        DUE.is("a quarrel", y.quarrel(0), 0);
    }

    private static void wrongsByTheLeast() {
        // 0 weds 1: it is the class of 0 that counts, though the told one is of 1
        SectionHouse x = Due.people(Due.sections(), "01");
        x.wed(1, 0);
        x.tell(1, 0);
        x.tell(1, 1);
        // the man of 0 makes her of 1, the man of 1 makes her of 0
        DUE.is("by the class of the least one", x.wrong(0), 0);
        DUE.is("one alone", x.wrongs(), 1);
    }

    private static void misfits() {
        // a man weds his sister: she is of his class, and no class weds itself
        SectionHouse x = Due.people(Due.sections(), "01010");
        x.parents(2, 0, 1);
        x.parents(3, 0, 1);
        x.tell(4, 1);
        x.tell(4, 2);
        DUE.is("fits", x.wrongs(), 1);
        x.wed(3, 2);
        DUE.is("fits not: wrongs()", x.wrongs(), -1);
        DUE.is("fits not: wrong(0)", x.wrong(0), -1);
        DUE.is("fits not: quarrel(0)", x.quarrel(0), 0);
        DUE.is("quarrel(1)", x.quarrel(1), 4);
        DUE.is("fits not: tells(1, 4)", x.tells(1, 4), 0);
        // fits with some classes only: C leaves class 2 alone
        SectionHouse y = Due.people(Due.house(new int[] {1, 2, 0}, new int[] {1, 0, 2}), "110");
        y.parents(1, -1, 0);
        y.parents(2, -1, 0);
        DUE.is("all classes fit", y.tells(0, 4), 7);
        y.wed(1, 2);
        DUE.is("brother and sister fit never", y.tells(0, 4), 0);
        SectionHouse z = Due.people(Due.house(new int[] {1, 2, 0}, new int[] {1, 0, 2}), "010");
        z.wed(1, 0);
        z.parents(2, -1, 1);
        z.wed(1, 2);
        // he of i weds W(i), and his daughter of C(i): both are one for i = 0 alone
        DUE.is("fits with one class: man", z.tells(1, 4), 1);
        DUE.is("fits with one class: wife", z.tells(0, 4), 2);
        DUE.is("fits with one class: daughter", z.tells(2, 4), 2);
        z.tell(1, 2);
        DUE.is("told one that fits not", z.quarrel(0), 0);
        DUE.is("that is wrong", z.wrongs(), 1);
        SectionHouse v = Due.people(Due.house(new int[] {1, 2, 0}, new int[] {1, 0, 2}), "010");
        // the mother of class j has children of C of her men's class: by both parents it must be one
        v.parents(2, 0, 1);
        DUE.is("a child ties its parents: mother", v.tells(0, 4), 7);
        v.tell(1, 0);
        DUE.is("a child ties its parents", v.tells(0, 4), 2);
        DUE.is("and is of C", v.tells(2, 4), 2);
    }

    private static void mayWed() {
        SectionHouse x = Due.people(new SectionHouse(), "1001");
        DUE.is("no system: may(0, 1)", x.may(0, 1), -1);
        Due.system(x, Due.SECTIONS);
        DUE.is("nothing told", x.may(0, 1), 1);
        DUE.is("no man", x.may(1, 2), -1);
        DUE.is("no woman", x.may(0, 3), -1);
        DUE.is("may(4, 1)", x.may(4, 1), -1);
        DUE.is("may(0, 4)", x.may(0, 4), -1);
        DUE.is("may(-1, 1)", x.may(-1, 1), -1);
        DUE.is("may(0, -1)", x.may(0, -1), -1);
        x.tell(0, 2);
        DUE.is("one told", x.may(0, 1), 1);
        x.tell(1, 3);
        DUE.is("right", x.may(0, 1), 2);
        x.tell(2, 2);
        DUE.is("not right", x.may(0, 2), 0);
        DUE.is("another man", x.may(3, 2), 1);
        x.tell(3, 0);
        x.tell(3, 1);
        DUE.is("of a quarrel", x.may(3, 2), -1);
        DUE.is("without it", x.may(0, 1), 2);
        x.tell(1, 0);
        DUE.is("she is of a quarrel", x.may(0, 1), -1);
        SectionHouse y = Due.people(Due.house(new int[] {1, 2, 0}, new int[] {0, 1, 2}), "10");
        y.tell(0, 0);
        y.tell(1, 2);
        DUE.is("it is his W, not hers", y.may(0, 1), 0);
    }

    private static void mayWedInOneFamily() {
        // 0 is the mother of 1 and of 4, 1 of 5, a man; 6 is the daughter of 4
        SectionHouse x = Due.people(Due.sections(), "0010110");
        DUE.is("grandmother", x.parents(1, 0, -1), true);
        DUE.is("uncle", x.parents(4, 0, -1), true);
        DUE.is("cousin", x.parents(6, -1, 4), true);
        DUE.is("son", x.parents(5, 1, -1), true);
        DUE.is("mother's brother's daughter", x.may(5, 6), 2);
        DUE.is("mother", x.may(5, 1), 0);
        DUE.is("a stranger", x.may(5, 3), 1);
        DUE.is("mother's mother", x.may(5, 0), 0);
        DUE.is("possible are all", x.tells(5, 4), 15);
        // of W 0 1 2 0 and C 0 1 0 a father weds his daughter by class 0 alone
        SectionHouse y = Due.people(Due.house(new int[] {1, 2, 0}, new int[] {1, 0, 2}), "10");
        y.parents(1, -1, 0);
        DUE.is("by some that go together", y.may(0, 1), 1);
        y.tell(1, 0);
        DUE.is("by none", y.may(0, 1), 0);
        SectionHouse z = Due.people(Due.house(new int[] {1, 2, 0}, new int[] {1, 0, 2}), "10");
        z.parents(1, -1, 0);
        z.tell(1, 1);
        DUE.is("by all", z.may(0, 1), 2);
        // all classes are possible, but only those that are right go together
        SectionHouse v = Due.people(Due.sections(), "10");
        v.wed(0, 1);
        DUE.is("wed already", v.may(0, 1), 2);
    }

    private static void counts() {
        SectionHouse x = Due.people(Due.sections(), "0110");
        Due.law(x, "bar z;bar m;");
        Due.word(x, "mbd", 1);
        x.wed(1, 0);
        x.tell(0, 1);
        x.tell(0, 1);
        x.day(7);
        x.wed(2, 0);
        x.tell(0, 1);
        x.view(4);
        int[] wants = {4, 2, 1, 4, 2, 3, 7, 4, 3, 2};
        for (int what = 0; what < wants.length; what++) {
            DUE.is("count(" + what + ")", x.count(what), wants[what]);
        }
        DUE.is("count(10)", x.count(10), -2);
        DUE.is("count(-1)", x.count(-1), -2);
    }
}
