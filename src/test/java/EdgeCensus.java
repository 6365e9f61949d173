/** Boundary cases of promises 21 to 23: all lawful systems of so many classes, and their kinds. */
final class EdgeCensus {
    private EdgeCensus() {
    }

    private static SectionHouse under(String law) {
        SectionHouse x = new SectionHouse();
        Due.law(x, law);
        return x;
    }

    // ---- promise 21: systems

    static void promise21TwoClassesAreTheFewest(Due due) {
        SectionHouse x = new SectionHouse();
        due.is("systems(2)", x.systems(2), 2);
        due.is("systems(1)", x.systems(1), -1);
        due.is("systems(0)", x.systems(0), -1);
        due.is("systems(-1)", x.systems(-1), -1);
    }

    static void promise21FiveClassesAreTheMost(Due due) {
        SectionHouse x = new SectionHouse();
        due.is("systems(5)", x.systems(5), 5040);
        due.is("systems(6)", x.systems(6), -1);
        due.is("systems(8)", x.systems(8), -1);
    }

    static void promise21FarNumbers(Due due) {
        SectionHouse x = new SectionHouse();
        for (int n : Due.FAR) {
            due.is("systems(" + n + ")", x.systems(n), -1);
        }
    }

    static void promise21NoneIsLawful(Due due) {
        SectionHouse x = under("must z;");
        for (int n = 2; n <= 5; n++) {
            due.is("systems(" + n + ")", x.systems(n), 0);
        }
    }

    static void promise21AllThatAreProperAreLawful(Due due) {
        SectionHouse x = under("bar z;must w;same b bb;");
        int[] all = {2, 12, 204, 5040};
        for (int n = 2; n <= 5; n++) {
            due.is("systems(" + n + ")", x.systems(n), all[n - 2]);
        }
    }

    static void promise21TheLastOfSixteenLinesCounts(Due due) {
        due.is("systems(3)", under(Due.times("bar z;", 15) + "must z;").systems(3), 0);
        due.is("systems(3) without it", under(Due.times("bar z;", 16)).systems(3), 12);
    }

    static void promise21TheSystemItselfDoesNotCount(Due due) {
        SectionHouse x = new SectionHouse();
        due.is("systems(4)", x.systems(4), 204);
        Due.system(x, Due.TWO);
        due.is("systems(4) with a system", x.systems(4), 204);
        due.is("the system stays", x.count(0), 2);
        due.is("its weds(0)", x.weds(0), 1);
    }

    static void promise21ByTheLawOfNow(Due due) {
        SectionHouse x = new SectionHouse();
        due.is("systems(2)", x.systems(2), 2);
        // the children's class: the father's, or the mother's
        Due.law(x, "same s b;");
        due.is("systems(2) by the father's class", x.systems(2), 1);
        Due.law(x, "bar f;");
        due.is("systems(2) behind a fault", x.systems(2), 1);
        x.law();
        due.is("systems(2) without law", x.systems(2), 2);
    }

    /** Laws of as many lines that differ in one thing alone. */
    static void promise21ByALawWithOneOtherThing(Due due) {
        String[] laws = {"bar z;bar d;", "bar z;must d;", "bar z;must m;", "bar z;same s b;", "bar z;same s f;",
            "bar z;same b f;", "must z;same b f;", "bar z;same b f;"};
        SectionHouse x = new SectionHouse();
        // of two classes W is 10 in all, and C 01 or 10: daughters are of W by 10, mothers by 01
        int[] wants = {1, 1, 1, 1, 2, 1, 0, 1};
        for (int i = 0; i < laws.length; i++) {
            Due.law(x, laws[i]);
            due.is("systems(2) by " + laws[i], x.systems(2), wants[i]);
        }
    }

    static void promise21ByALawOfOneLineWithOneOtherThing(Due due) {
        SectionHouse x = new SectionHouse();
        String[] laws = {"bar d;", "must d;", "must m;", "bar m;"};
        int[] first = {0, 1, 0, 1};
        for (int i = 0; i < laws.length; i++) {
            Due.law(x, laws[i]);
            due.is("systems(2) by " + laws[i], x.systems(2), 1);
            due.is("C of 0 by " + laws[i], x.kind(2, 0, 2), first[i]);
        }
        Due.law(x, "same s b;");
        due.is("systems(2), sons as brothers", x.systems(2), 1);
        Due.law(x, "same s f;");
        due.is("systems(2), sons as fathers", x.systems(2), 2);
        Due.law(x, "same b f;");
        due.is("systems(2), brothers as fathers", x.systems(2), 1);
    }

    // ---- promise 22: kinds

    static void promise22TwoToFive(Due due) {
        SectionHouse x = new SectionHouse();
        int[] kinds = {2, 4, 15, 46};
        for (int n = 2; n <= 5; n++) {
            due.is("kinds(" + n + ")", x.kinds(n), kinds[n - 2]);
        }
    }

    static void promise22AnotherNumber(Due due) {
        SectionHouse x = new SectionHouse();
        for (int n : new int[] {-1, 0, 1, 6, 7, 8}) {
            due.is("kinds(" + n + ")", x.kinds(n), -1);
        }
        for (int n : Due.FAR) {
            due.is("kinds(" + n + ")", x.kinds(n), -1);
        }
    }

    static void promise22NoneIsLawful(Due due) {
        SectionHouse x = under("bar w;");
        for (int n = 2; n <= 5; n++) {
            due.is("kinds(" + n + ")", x.kinds(n), 0);
        }
    }

    static void promise22OneKindOfManySystems(Due due) {
        SectionHouse x = under("same s b;");
        int[] systems = {1, 2, 6, 24};
        for (int n = 2; n <= 5; n++) {
            due.is("systems(" + n + ")", x.systems(n), systems[n - 2]);
            due.is("kinds(" + n + ")", x.kinds(n), 1);
        }
    }

    static void promise22ByTheLawOfNow(Due due) {
        SectionHouse x = under("same s b;");
        due.is("kinds(5)", x.kinds(5), 1);
        x.law();
        due.is("kinds(5) without law", x.kinds(5), 46);
    }

    // ---- promise 23: kind

    static void promise23AnotherNumberOfClasses(Due due) {
        SectionHouse x = new SectionHouse();
        for (int n : new int[] {-1, 0, 1, 6, 7, 8}) {
            due.is("kind(" + n + ", 0, 0)", x.kind(n, 0, 0), -1);
        }
        for (int n : Due.FAR) {
            due.is("kind(" + n + ", 0, 0)", x.kind(n, 0, 0), -1);
        }
    }

    static void promise23FirstAndLastKind(Due due) {
        SectionHouse x = new SectionHouse();
        int[] kinds = {2, 4, 15, 46};
        for (int n = 2; n <= 5; n++) {
            due.is("kind(" + n + ", 0, 0)", x.kind(n, 0, 0), 1);
            due.is("kind(" + n + ", " + (kinds[n - 2] - 1) + ", 0)", x.kind(n, kinds[n - 2] - 1, 0), 1);
            due.is("kind(" + n + ", " + kinds[n - 2] + ", 0)", x.kind(n, kinds[n - 2], 0), -1);
            due.is("kind(" + n + ", -1, 0)", x.kind(n, -1, 0), -1);
        }
    }

    static void promise23FirstAndLastNumberOfTheRow(Due due) {
        SectionHouse x = new SectionHouse();
        String[] last = {"1010", "120201", "12303012", "1234040123"};
        for (int n = 2; n <= 5; n++) {
            int k = x.kinds(n) - 1;
            for (int i = 0; i < 2 * n; i++) {
                due.is("kind(" + n + ", " + k + ", " + i + ")", x.kind(n, k, i), last[n - 2].charAt(i) - '0');
            }
            due.is("kind(" + n + ", " + k + ", " + 2 * n + ")", x.kind(n, k, 2 * n), -1);
            due.is("kind(" + n + ", " + k + ", -1)", x.kind(n, k, -1), -1);
        }
    }

    static void promise23FarNumbers(Due due) {
        SectionHouse x = new SectionHouse();
        for (int far : Due.FAR) {
            due.is("kind(3, " + far + ", 0)", x.kind(3, far, 0), -1);
            due.is("kind(3, 0, " + far + ")", x.kind(3, 0, far), -1);
        }
    }

    static void promise23NoneIsLawful(Due due) {
        SectionHouse x = under("must z;");
        for (int n = 2; n <= 5; n++) {
            due.is("kind(" + n + ", 0, 0)", x.kind(n, 0, 0), -1);
        }
    }

    static void promise23NumbersOfLawfulKindsHaveNoGaps(Due due) {
        // of 1001 and 1010 the second one alone: children of their mother's class
        SectionHouse x = under("bar m;");
        due.is("kinds(2)", x.kinds(2), 1);
        due.is("kind(2, 0, 2)", x.kind(2, 0, 2), 1);
        due.is("kind(2, 0, 3)", x.kind(2, 0, 3), 0);
        due.is("kind(2, 1, 2)", x.kind(2, 1, 2), -1);
    }
}
