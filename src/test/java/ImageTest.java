/** Promises 37 and 38: images of all that is told. */
public final class ImageTest {
    private static final Due DUE = new Due("ImageTest");

    public static void main(String[] args) {
        wrongImages();
        allComesAgain();
        newComesAgain();
        imagesStay();
        anImageComesTwice();
        imagesAreApart();
        tapeComesAgain();
        otherStoriesDoNotShow();
        DUE.finish();
    }

    private static void wrongImages() {
        SectionHouse x = new SectionHouse();
        for (int k : new int[] {-1, 3, Integer.MAX_VALUE, Integer.MIN_VALUE}) {
            DUE.is("image(" + k + ")", x.image(k), false);
            DUE.is("again(" + k + ")", x.again(k), false);
        }
        DUE.is("again(0) of none", x.again(0), false);
        DUE.is("image(1)", x.image(1), true);
        DUE.is("again(0) still", x.again(0), false);
        DUE.is("again(2) still", x.again(2), false);
        DUE.is("again(1)", x.again(1), true);
        DUE.is("again(1) twice", x.again(1), true);
    }

    private static SectionHouse filled() {
        SectionHouse x = Due.sections();
        Due.law(x, "bar z;must w;");
        Due.word(x, "mbd", 1);
        x.person(0);
        x.person(1);
        x.person(1);
        x.wed(1, 0);
        x.tell(0, 1);
        x.day(5);
        x.parents(2, 0, 1);
        x.tell(2, 2);
        x.view(3);
        Due.word(x, "fq", 1);
        x.feed(1, 2, 3, 4, 5);
        x.end(7);
        return x;
    }

    /** What can be asked without changing anything, in so few calls that an object can answer it four times. */
    private static String all(SectionHouse x) {
        StringBuilder text = new StringBuilder();
        for (int what = 0; what < 10; what++) {
            text.append(x.count(what)).append(' ');
        }
        text.append(x.fault(0)).append(' ').append(x.fault(1)).append('\n');
        for (int i = 0; i < 4; i++) {
            text.append(x.weds(i)).append(x.child(i, true)).append(x.child(i, false)).append(x.leads(0, i));
            text.append(x.about(0, i)).append(x.is(i)).append(x.tells(i, 0)).append(x.tells(i, 1));
            text.append(x.tells(i, 2)).append(x.tells(i, 3)).append(x.tells(i, 4)).append(' ');
        }
        for (int k = 0; k < 3; k++) {
            text.append(x.told(k, 0)).append(x.told(k, 1)).append(x.told(k, 2)).append(x.comes(k)).append(' ');
        }
        text.append(x.halves(0)).append(x.half(0, 0)).append(x.about(0, 4)).append(x.letter(0, 0));
        text.append(x.about(1, 1)).append(x.about(1, 2)).append(x.alike(0, 1)).append(x.broken()).append(x.turnsOf());
        text.append(x.brides(3)).append(' ').append(x.systems(4)).append(' ').append(x.kinds(4)).append(' ');
        text.append(x.quarrel(0)).append(x.wrongs()).append(x.wrong(0)).append(x.may(1, 0)).append(x.may(2, 0));
        return text.toString();
    }

    private static void change(SectionHouse x) {
        x.end(0);
        Due.system(x, Due.systemText(new int[] {1, 2, 0}, new int[] {1, 0, 2}));
        Due.law(x, "must z;bar d;bar m;");
        Due.word(x, "ss", 0);
        x.person(0);
        x.day(9);
        x.parents(1, 0, -1);
        x.wed(2, 3);
        x.tell(1, 1);
        x.view(-1);
        x.feed(5, 4, 3, 2, 1);
    }

    private static void allComesAgain() {
        SectionHouse x = filled();
        String before = all(x);
        DUE.is("image(0)", x.image(0), true);
        DUE.is("an image changes nothing", all(x).equals(before), true);
        change(x);
        DUE.is("it changed", all(x).equals(before), false);
        DUE.is("again(0)", x.again(0), true);
        DUE.is("all is as it was", all(x).equals(before), true);
        DUE.is("the tape, too", x.end(8), -1);
        DUE.is("all of it", x.end(7), 7);
        DUE.is("parents can be told anew", x.parents(1, 0, -1), true);
        DUE.is("the next telling", x.tell(0, 0), 2);
        DUE.is("its day", x.told(2, 2), 5);
        DUE.is("the next wedding", x.wed(2, 0), 2);
        DUE.is("the next person", x.person(1), 3);
        DUE.is("which has no parents", x.tells(3, 1), -1);
    }

    private static void newComesAgain() {
        SectionHouse x = new SectionHouse();
        String empty = all(x);
        x.image(2);
        change(x);
        change(x);
        DUE.is("again(2)", x.again(2), true);
        DUE.is("all is new", all(x).equals(empty), true);
        DUE.is("the day, too", x.day(0), true);
    }

    private static void imagesStay() {
        SectionHouse x = filled();
        x.image(0);
        String first = all(x);
        change(x);
        String second = all(x);
        x.image(1);
        x.again(0);
        change(x);
        x.again(1);
        DUE.is("the second one", all(x).equals(second), true);
        x.again(0);
        DUE.is("the first one", all(x).equals(first), true);
    }

    private static void anImageComesTwice() {
        SectionHouse x = filled();
        x.image(0);
        String first = all(x);
        change(x);
        x.again(0);
        change(x);
        x.again(0);
        DUE.is("twice", all(x).equals(first), true);
    }

    private static void imagesAreApart() {
        SectionHouse x = filled();
        x.image(0);
        change(x);
        x.image(0);
        String later = all(x);
        change(x);
        x.again(0);
        DUE.is("the later image stands", all(x).equals(later), true);
        DUE.is("image 1 does not", x.again(1), false);
    }

    private static void tapeComesAgain() {
        SectionHouse x = new SectionHouse();
        Due.tape(x, "mbd");
        x.image(0);
        DUE.is("word", x.word(1), 0);
        x.again(0);
        DUE.is("no words", x.count(2), 0);
        DUE.is("word again", x.word(0), 0);
        DUE.is("its letters", x.about(0, 2), 3);
        DUE.is("from a woman", x.about(0, 1), 0);
        Due.tape(x, "zzz");
        x.again(0);
        x.word(1);
        Due.system(x, Due.SECTIONS);
        DUE.is("the old bytes", x.about(0, 3), 4);
    }

    /** Two stories from one beginning, told in the same places: neither may show in the other. */
    private static void otherStoriesDoNotShow() {
        SectionHouse x = new SectionHouse();
        x.image(0);
        story(x, Due.SECTIONS, "mbd", 1, 3);
        x.image(1);
        String first = all(x);
        x.again(0);
        story(x, Due.systemText(new int[] {1, 2, 0}, new int[] {1, 0, 2}), "zs", 0, 7);
        x.image(2);
        String second = all(x);
        x.again(1);
        DUE.is("the first story", all(x).equals(first), true);
        seen(x, 1, 3);
        x.again(2);
        DUE.is("the second story", all(x).equals(second), true);
        seen(x, 0, 7);
        x.again(1);
        seen(x, 1, 3);
    }

    /** Six persons, of whom those of the one story wed, and are parents, that do not in the other. */
    private static void story(SectionHouse x, String system, String word, int sex, int day) {
        Due.system(x, system);
        Due.law(x, sex == 1 ? "bar z;same f b;" : "must z;same b f;");
        Due.word(x, word, sex);
        for (int p = 0; p < 6; p++) {
            x.person(p + sex & 1);
        }
        int woman = sex;
        int man = 1 - sex;
        x.day(day);
        x.parents(4, woman, man);
        x.wed(man + 2, woman + 2);
        x.tell(4, sex);
        x.view(day - 1);
    }

    private static void seen(SectionHouse x, int sex, int day) {
        int woman = sex;
        int man = 1 - sex;
        x.view(day - 1);
        DUE.is("families before", x.count(8), 6);
        x.view(day);
        DUE.is("families by the day", x.count(8), 3);
        DUE.is("mother", x.tells(4, 1), woman);
        DUE.is("father", x.tells(4, 2), man);
        DUE.is("sex", x.tells(0, 0), sex);
        DUE.is("the telling's class", x.told(0, 1), sex);
        DUE.is("the telling's day", x.told(0, 2), day);
        DUE.is("the word is from", x.about(0, 1), sex);
        DUE.is("wed already", x.wed(man + 2, woman + 2), -1);
        DUE.is("parents already", x.parents(4, woman, man), false);
    }
}
