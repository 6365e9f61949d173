/** Promises 21 to 23: all lawful systems of so many classes, and their kinds. */
public final class CensusTest {
    private static final Due DUE = new Due("CensusTest");

    public static void main(String[] args) {
        withoutLaw();
        withLaw();
        wrongNumbers();
        kindsOfFive();
        lawChanges();
        everySystemHasItsKind();
        DUE.finish();
    }

    private static void rows(SectionHouse x, int n, String... rows) {
        DUE.is("kinds(" + n + ")", x.kinds(n), rows.length);
        for (int k = 0; k < rows.length; k++) {
            for (int i = 0; i < 2 * n; i++) {
                DUE.is("kind(" + n + ", " + k + ", " + i + ")", x.kind(n, k, i), rows[k].charAt(i) - '0');
            }
        }
        DUE.is("kind one more", x.kind(n, rows.length, 0), -1);
    }

    private static void withoutLaw() {
        SectionHouse x = new SectionHouse();
        int[] systems = {2, 12, 204, 5040};
        for (int n = 2; n <= 5; n++) {
            DUE.is("systems(" + n + ")", x.systems(n), systems[n - 2]);
        }
        rows(x, 2, "1001", "1010");
        rows(x, 3, "120012", "120021", "120120", "120201");
        rows(x, 4, "10320213", "10320231", "10321230", "10322301", "10322310", "12300123", "12300132", "12300231",
            "12300312", "12300321", "12301032", "12301230", "12301302", "12302301", "12303012");
        DUE.is("kinds(5)", x.kinds(5), 46);
    }

    private static void withLaw() {
        SectionHouse x = new SectionHouse();
        Due.law(x, "bar z;bar m;must mbd;same fzd mbd;");
        int[] systems = {1, 0, 12, 0};
        for (int n = 2; n <= 5; n++) {
            DUE.is("by law: systems(" + n + ")", x.systems(n), systems[n - 2]);
        }
        rows(x, 2, "1010");
        rows(x, 3);
        rows(x, 4, "10322301", "10322310");
        rows(x, 5);
        Due.law(x, "must z;");
        for (int n = 2; n <= 5; n++) {
            DUE.is("sisters: systems(" + n + ")", x.systems(n), 0);
            DUE.is("sisters: kinds(" + n + ")", x.kinds(n), 0);
        }
        // children of their father's class, so W turns all round: (n - 1)! systems, one kind
        Due.law(x, "same s b;");
        rows(x, 5, "1234001234");
        DUE.is("fathers': systems(5)", x.systems(5), 24);
        DUE.is("fathers': systems(4)", x.systems(4), 6);
    }

    private static void wrongNumbers() {
        SectionHouse x = Due.sections();
        for (int n : new int[] {-1, 0, 1, 6, 8, Integer.MAX_VALUE, Integer.MIN_VALUE}) {
            DUE.is("systems(" + n + ")", x.systems(n), -1);
            DUE.is("kinds(" + n + ")", x.kinds(n), -1);
            DUE.is("kind(" + n + ", 0, 0)", x.kind(n, 0, 0), -1);
        }
        DUE.is("kind(3, -1, 0)", x.kind(3, -1, 0), -1);
        DUE.is("kind(3, 4, 0)", x.kind(3, 4, 0), -1);
        DUE.is("kind(3, 0, -1)", x.kind(3, 0, -1), -1);
        DUE.is("kind(3, 0, 6)", x.kind(3, 0, 6), -1);
        DUE.is("kind(3, 0, 5)", x.kind(3, 0, 5), 2);
    }

    private static void kindsOfFive() {
        SectionHouse x = new SectionHouse();
        Model model = new Model();
        DUE.is("systems(5) as the model", x.systems(5), model.systems(5));
        long last = -1;
        int kinds = x.kinds(5);
        for (int k = 0; k < kinds; k++) {
            long row = 0;
            for (int i = 0; i < 10; i++) {
                row = row * 10 + x.kind(5, k, i);
            }
            DUE.is("rows go up at " + k, row > last, true);
            last = row;
        }
        for (int k = 0; k < 46; k += 9) {
            for (int i = 0; i < 10; i += 3) {
                DUE.is("kind(5, " + k + ", " + i + ") as the model", x.kind(5, k, i), model.kind(5, k, i));
            }
        }
    }

    private static void lawChanges() {
        SectionHouse x = new SectionHouse();
        DUE.is("systems(4)", x.systems(4), 204);
        x.image(0);
        Due.law(x, "must mbd;");
        int some = x.systems(4);
        DUE.is("fewer by law", some > 0 && some < 204, true);
        Due.law(x, "must f;");
        DUE.is("a law at fault changes nothing", x.systems(4), some);
        x.again(0);
        DUE.is("systems(4) again", x.systems(4), 204);
        // laws that differ in one thing alone
        String[] laws = {"bar d;", "must d;", "must fzd;", "same f b;", "same f s;", "same b s;", "same ff s;", "bar fzd;"};
        for (String law : laws) {
            SectionHouse fresh = new SectionHouse();
            Due.law(fresh, law);
            Due.law(x, law);
            DUE.is("systems(4) by " + law + " behind another", x.systems(4), fresh.systems(4));
        }
    }

    /** Systems counted one by one through the text, by is(2) alone. */
    private static void everySystemHasItsKind() {
        int[][] orders = {{0, 1, 2}, {0, 2, 1}, {1, 0, 2}, {1, 2, 0}, {2, 0, 1}, {2, 1, 0}};
        String[] laws = {"", "must mbd;", "bar d;", "same ff b;", "bar m;bar d;", "must fzd;"};
        for (String law : laws) {
            int lawful = 0;
            for (int[] wives : orders) {
                for (int[] children : orders) {
                    SectionHouse x = Due.house(wives, children);
                    Due.law(x, law);
                    lawful += x.is(2) ? 1 : 0;
                }
            }
            SectionHouse x = new SectionHouse();
            Due.law(x, law);
            DUE.is("systems(3) by '" + law + "'", x.systems(3), lawful);
        }
    }
}
