import java.nio.charset.StandardCharsets;

/** Counts the answers that are not as due, and feeds texts. */
final class Due {
    static final String SECTIONS = "classes 4;weds a b;weds b a;weds c d;weds d c;"
        + "child a c;child b d;child c a;child d b;";
    static final String TWO = "classes 2;weds a b;weds b a;child a a;child b b;";
    /** Numbers that are none of anything in the document, but wrap round to small ones by shifts, casts or times. */
    static final int[] FAR = {Integer.MIN_VALUE, Integer.MIN_VALUE + 1, -(1 << 29), -65536, -65535, -256, -255, -8, -2,
        1024, 65536, 65537, 1 << 28, 1 << 29, (1 << 29) + 1, 1 << 30, (1 << 30) + 1, Integer.MAX_VALUE - 1,
        Integer.MAX_VALUE};

    private final String test;
    private int asked;
    private int wrong;

    Due(String test) {
        this.test = test;
    }

    void is(String call, long got, long want) {
        asked++;
        if (got != want) {
            wrong++;
            System.out.println(test + ": " + call + " answered " + got + ", due is " + want);
        }
    }

    void is(String call, boolean got, boolean want) {
        is(call, got ? 1 : 0, want ? 1 : 0);
    }

    /** Whether something was asked, and all of it was answered as due. */
    boolean isGood() {
        return wrong == 0 && asked > 0;
    }

    /** Feeds bytes twenty at a time, the last ones filled up and cut off again. */
    static void tape(SectionHouse house, byte[] bytes) {
        for (int at = 0; at < bytes.length; at += 20) {
            int[] five = new int[5];
            for (int i = 0; i < 20; i++) {
                int sign = at + i < bytes.length ? bytes[at + i] & 255 : 'Q';
                five[i / 4] = five[i / 4] << 8 | sign;
            }
            house.feed(five[0], five[1], five[2], five[3], five[4]);
        }
        house.end(bytes.length);
    }

    static void tape(SectionHouse house, String text) {
        tape(house, text.getBytes(StandardCharsets.ISO_8859_1));
    }

    static int system(SectionHouse house, String text) {
        tape(house, text);
        return house.system();
    }

    /** A system from its rows, as 'weds' and 'child' lines. */
    static String systemText(int[] wives, int[] children) {
        StringBuilder text = new StringBuilder("classes " + wives.length + ";");
        for (int i = 0; i < wives.length; i++) {
            text.append("weds ").append((char) ('a' + i)).append(' ').append((char) ('a' + wives[i])).append(';');
            text.append("child ").append((char) ('a' + i)).append(' ').append((char) ('a' + children[i])).append(';');
        }
        return text.toString();
    }

    static SectionHouse house(int[] wives, int[] children) {
        SectionHouse house = new SectionHouse();
        if (system(house, systemText(wives, children)) != wives.length) {
            throw new IllegalStateException("no such system");
        }
        return house;
    }

    static SectionHouse sections() {
        SectionHouse house = new SectionHouse();
        system(house, SECTIONS);
        return house;
    }

    /** Persons by their sexes, as '0110'. */
    static SectionHouse people(SectionHouse house, String sexes) {
        for (char sex : sexes.toCharArray()) {
            house.person(sex - '0');
        }
        return house;
    }

    static String times(String text, int n) {
        StringBuilder all = new StringBuilder();
        for (int i = 0; i < n; i++) {
            all.append(text);
        }
        return all.toString();
    }

    static int law(SectionHouse house, String text) {
        tape(house, text);
        return house.law();
    }

    static int word(SectionHouse house, String text, int sex) {
        tape(house, text);
        return house.word(sex);
    }

    void system(String text, int want, int fault, int place) {
        SectionHouse house = new SectionHouse();
        is("system() of '" + text + "'", system(house, text), want);
        faults(house, "system() of '" + text + "'", fault, place);
        is("count(0) behind '" + text + "'", house.count(0), Math.max(want, 0));
    }

    void law(String text, int want, int fault, int place) {
        SectionHouse house = new SectionHouse();
        is("law() of '" + text + "'", law(house, text), want);
        faults(house, "law() of '" + text + "'", fault, place);
        is("count(1) behind '" + text + "'", house.count(1), Math.max(want, 0));
    }

    void word(String text, int sex, int want, int fault, int place) {
        SectionHouse house = new SectionHouse();
        is("word(" + sex + ") of '" + text + "'", word(house, text, sex), want);
        faults(house, "word(" + sex + ") of '" + text + "'", fault, place);
        is("count(2) behind '" + text + "'", house.count(2), want == 0 ? 1 : 0);
    }

    private void faults(SectionHouse house, String what, int fault, int place) {
        is("fault(0) of " + what, house.fault(0), fault);
        is("fault(1) of " + what, house.fault(1), place);
        is("the tape behind " + what, house.end(1), -1);
    }

    void finish() {
        System.out.println(test + ": " + asked + " answers, " + wrong + " not as due");
        if (!isGood()) {
            System.exit(1);
        }
    }
}
