import java.lang.management.ManagementFactory;
import java.lang.reflect.Constructor;
import java.lang.reflect.Field;
import java.lang.reflect.Method;
import java.lang.reflect.Modifier;
import java.nio.file.Files;
import java.nio.file.Path;
import java.util.ArrayList;
import java.util.Arrays;
import java.util.Collections;
import java.util.HashSet;
import java.util.List;
import java.util.Set;
import java.util.regex.Pattern;

/** The face of the document, the rules of the language that can be looked up, and the room that a run takes. */
public final class FaceTest {
    private static final Due DUE = new Due("FaceTest");
    private static final String[] FACE = {
        "int feed(int, int, int, int, int)", "int end(int)", "int system()", "int law()", "int word(int)",
        "int fault(int)", "int weds(int)", "int child(int, boolean)", "boolean is(int)", "int broken()",
        "int leads(int, int)", "int about(int, int)", "int letter(int, int)", "boolean alike(int, int)",
        "int brides(int)", "int turnsOf()", "int comes(int)", "int halves(int)", "int half(int, int)",
        "int systems(int)", "int kinds(int)", "int kind(int, int, int)", "int person(int)",
        "boolean parents(int, int, int)", "int wed(int, int)", "int tell(int, int)", "boolean day(int)",
        "boolean view(int)", "int tells(int, int)", "int told(int, int)", "int quarrel(int)", "int wrongs()",
        "int wrong(int)", "int may(int, int)", "int count(int)", "boolean image(int)", "boolean again(int)"};

    public static void main(String[] args) throws Exception {
        DUE.is("NONE", SectionHouse.NONE, -1);
        face();
        insideClasses();
        source(Files.readString(Path.of(args.length > 0 ? args[0] : "src/main/java/SectionHouse.java")));
        room();
        DUE.finish();
    }

    private static String shape(Method method) {
        List<String> types = new ArrayList<>();
        for (Class<?> type : method.getParameterTypes()) {
            types.add(type.getSimpleName());
        }
        return method.getReturnType().getSimpleName() + " " + method.getName() + "(" + String.join(", ", types) + ")";
    }

    private static void face() {
        List<String> open = new ArrayList<>();
        for (Method method : SectionHouse.class.getDeclaredMethods()) {
            if (!Modifier.isPrivate(method.getModifiers())) {
                DUE.is(method.getName() + " is public", Modifier.isPublic(method.getModifiers()), true);
                open.add(shape(method));
            }
        }
        List<String> wanted = new ArrayList<>(Arrays.asList(FACE));
        Collections.sort(open);
        Collections.sort(wanted);
        DUE.is("the face is the document's: " + open, open.equals(wanted), true);
        for (Field field : SectionHouse.class.getDeclaredFields()) {
            boolean hidden = Modifier.isPrivate(field.getModifiers());
            DUE.is("field " + field.getName(), hidden || field.getName().equals("NONE"), true);
        }
        Constructor<?>[] makers = SectionHouse.class.getDeclaredConstructors();
        DUE.is("one constructor", makers.length, 1);
        DUE.is("a public one", Modifier.isPublic(makers[0].getModifiers()), true);
        DUE.is("final", Modifier.isFinal(SectionHouse.class.getModifiers()), true);
    }

    private static void insideClasses() {
        Set<String> names = new HashSet<>();
        for (String shape : FACE) {
            names.add(shape.substring(shape.indexOf(' ') + 1, shape.indexOf('(')));
        }
        List<Class<?>> all = new ArrayList<>(Arrays.asList(SectionHouse.class.getDeclaredClasses()));
        DUE.is("some twelve classes", all.size() < 12, true);
        for (Class<?> inside : all) {
            DUE.is(inside + " is static", Modifier.isStatic(inside.getModifiers()), true);
            for (Method method : inside.getDeclaredMethods()) {
                DUE.is(inside + " has " + method.getName(), names.contains(method.getName()), false);
            }
        }
        all.add(SectionHouse.class);
        for (Class<?> one : all) {
            int fields = 0;
            for (Field field : one.getDeclaredFields()) {
                boolean fixed = Modifier.isStatic(field.getModifiers());
                fields += fixed ? 0 : 1;
                DUE.is(field + " is final", !fixed || Modifier.isFinal(field.getModifiers()), true);
            }
            DUE.is("fields of " + one, fields <= 20, true);
            for (Method method : one.getDeclaredMethods()) {
                DUE.is("parameters of " + method, method.getParameterCount() <= 7, true);
            }
        }
    }

    private static void source(String text) {
        String[] ruledOut = {"\\bthrow\\b", "\\btry\\b", "\\bcatch\\b", "\\bsynchronized\\b", "\\bassert\\b", "->", "::",
            "\\bpackage\\b", "\\bList\\b", "Exact\\b", "\\bdouble\\b", "\\bfloat\\b", "\\bnative\\b", "\\bvolatile\\b",
            "import (?!java\\.util\\.Arrays;)", "\"\\s*\\+", "\\+\\s*\"", "[^\\x00-\\x7f]"};
        String code = text.replaceAll("(?s)/\\*.*?\\*/", "").replaceAll("//[^\\n]*", "");
        for (String pattern : ruledOut) {
            DUE.is("found " + pattern, Pattern.compile(pattern).matcher(code).find(), false);
        }
        int begin = -1;
        String[] lines = text.split("\n");
        for (int i = 0; i < lines.length; i++) {
            DUE.is("line " + (i + 1) + " is not too long", lines[i].length() <= 120, true);
            if (lines[i].matches(" {4}(?: {4})?[a-zA-Z].*\\) \\{")) {
                begin = i;
            } else if (begin >= 0 && lines[i].matches(" {4}(?: {4})?\\}")) {
                DUE.is("the method at line " + (begin + 1) + " is short", i - begin <= 60, true);
                begin = -1;
            }
        }
    }

    private static long bytes() {
        return ((com.sun.management.ThreadMXBean) ManagementFactory.getThreadMXBean()).getCurrentThreadAllocatedBytes();
    }

    /** Calls make no objects but images and censuses, which are made once. */
    private static void room() {
        SectionHouse x = Due.sections();
        round(x, 1);
        bytes();
        long before = bytes();
        for (int i = 2; i < 8; i++) {
            round(x, i);
        }
        long taken = bytes() - before;
        DUE.is("six rounds took " + taken + " bytes", taken < 20000, true);
        before = bytes();
        SectionHouse y = new SectionHouse();
        round(y, 1);
        taken = bytes() - before;
        DUE.is("one object took " + taken + " bytes", taken < 200000, true);
    }

    private static void round(SectionHouse x, int i) {
        for (int k = 0; k < 3; k++) {
            x.image(k);
        }
        x.person(i & 1);
        x.person(1 - i & 1);
        x.parents(i, i - 1, -1);
        x.wed(i, i - 1);
        x.tell(i, i & 3);
        x.feed(0x6d626420, i, i, i, i);
        x.end(3);
        x.word(1);
        x.end(0);
        x.law();
        for (int n = 2; n <= 5; n++) {
            x.systems(n);
            x.kinds(n);
            x.kind(n, 0, i);
        }
        x.turnsOf();
        x.about(0, 4);
        x.letter(0, 0);
        x.brides(i % 6 + 1);
        x.halves(0);
        x.half(0, 0);
        x.comes(1);
        x.is(1);
        x.is(2);
        x.broken();
        x.wrongs();
        x.wrong(0);
        x.quarrel(0);
        x.may(i, i - 1);
        x.tells(i, 4);
        x.count(8);
        x.again(i % 3);
    }
}
