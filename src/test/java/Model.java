import java.util.ArrayList;
import java.util.Arrays;
import java.util.HashSet;
import java.util.LinkedHashMap;
import java.util.List;
import java.util.Map;
import java.util.Set;
import java.util.TreeSet;
import java.util.regex.Matcher;
import java.util.regex.Pattern;

/** The document's words done as slowly and plainly as they can be, to hold the class against. */
final class Model {
    private static final String LETTERS = "fmsdbzhw";

    private static final class State {
        String tape = "";
        int fault;
        int place = -1;
        int[] w;
        int[] c;
        List<String[]> lines = new ArrayList<>();
        List<String> words = new ArrayList<>();
        List<Integer> wordSexes = new ArrayList<>();
        List<Integer> sexes = new ArrayList<>();
        List<int[]> parents = new ArrayList<>();
        List<int[]> weddings = new ArrayList<>();
        List<int[]> tellings = new ArrayList<>();
        int day;
        int view = -1;

        State copy() {
            State s = new State();
            s.tape = tape;
            s.fault = fault;
            s.place = place;
            s.w = w;
            s.c = c;
            s.lines = new ArrayList<>(lines);
            s.words = new ArrayList<>(words);
            s.wordSexes = new ArrayList<>(wordSexes);
            s.sexes = new ArrayList<>(sexes);
            s.parents = new ArrayList<>(parents);
            s.weddings = new ArrayList<>(weddings);
            s.tellings = new ArrayList<>(tellings);
            s.day = day;
            s.view = view;
            return s;
        }
    }

    private record Token(String text, int place) {
        boolean matches(String pattern) {
            return text.matches(pattern);
        }
    }

    private State s = new State();
    private final State[] images = new State[3];

    // ---- texts

    int feed(int... five) {
        if (s.tape.length() > 380) {
            return -1;
        }
        StringBuilder more = new StringBuilder();
        for (int number : five) {
            for (int shift = 24; shift >= 0; shift -= 8) {
                more.append((char) (number >>> shift & 255));
            }
        }
        s.tape += more;
        return s.tape.length();
    }

    int end(int n) {
        if (n < 0 || n > s.tape.length()) {
            return -1;
        }
        s.tape = s.tape.substring(0, n);
        return n;
    }

    private static List<Token> tokens(String text) {
        List<Token> all = new ArrayList<>();
        Matcher m = Pattern.compile("[a-z]+|[0-9]+|;|[\\n ]+|[\\s\\S]").matcher(text);
        while (m.find()) {
            if (!m.group().matches("[\\n ]+")) {
                all.add(new Token(m.group(), m.start()));
            }
        }
        all.add(new Token("", text.length()));
        return all;
    }

    /** The place of fault 1: the first token that no shape lets go on; -1 if the text is whole. */
    private static int firstFault(List<Token> all, List<String> head, List<List<String>> lines) {
        int at = 0;
        for (String shape : head) {
            if (!all.get(at).matches(shape)) {
                return all.get(at).place();
            }
            at++;
        }
        while (!all.get(at).text().isEmpty()) {
            List<String> line = null;
            for (List<String> one : lines) {
                if (all.get(at).matches(one.get(0))) {
                    line = one;
                }
            }
            if (line == null) {
                return all.get(at).place();
            }
            for (String shape : line) {
                if (!all.get(at).matches(shape)) {
                    return all.get(at).place();
                }
                at++;
            }
        }
        return -1;
    }

    private boolean faulty(List<int[]> faults) {
        int[] first = null;
        for (int[] f : faults) {
            if (first == null || f[1] < first[1]) {
                first = f;
            }
        }
        s.fault = first == null ? 0 : first[0];
        s.place = first == null ? -1 : first[1];
        return first != null;
    }

    int system() {
        String text = s.tape;
        s.tape = "";
        List<Token> all = tokens(text);
        int one = firstFault(all, List.of("classes", "[0-9]{1,4}", ";"),
            List.of(List.of("weds|child", "[a-h]", "[a-h]", ";")));
        List<int[]> faults = new ArrayList<>();
        if (one >= 0) {
            faults.add(new int[] {1, one});
            faulty(faults);
            return -1;
        }
        int n = Integer.parseInt(all.get(1).text());
        if (n < 2 || n > 8) {
            faults.add(new int[] {2, all.get(1).place()});
        }
        Map<String, Integer> told = new LinkedHashMap<>();
        for (int i = 3; i + 3 < all.size(); i += 4) {
            for (int k = 1; k <= 2; k++) {
                if (all.get(i + k).text().charAt(0) - 'a' >= n) {
                    faults.add(new int[] {2, all.get(i + k).place()});
                }
            }
            String what = all.get(i).text() + all.get(i + 1).text();
            if (told.containsKey(what)) {
                faults.add(new int[] {3, all.get(i).place()});
            }
            told.put(what, all.get(i + 2).text().charAt(0) - 'a');
        }
        if (faults.isEmpty() && told.size() < 2 * n) {
            faults.add(new int[] {4, text.length()});
        }
        int[] w = new int[8];
        int[] c = new int[8];
        if (faults.isEmpty()) {
            w = new int[n];
            c = new int[n];
            Set<Integer> ws = new HashSet<>();
            Set<Integer> cs = new HashSet<>();
            for (int i = 0; i < n; i++) {
                w[i] = told.get("weds" + (char) ('a' + i));
                c[i] = told.get("child" + (char) ('a' + i));
                ws.add(w[i]);
                cs.add(c[i]);
            }
            if (ws.size() < n || cs.size() < n) {
                faults.add(new int[] {5, 0});
            }
        }
        if (faulty(faults)) {
            return -1;
        }
        s.w = w;
        s.c = c;
        return n;
    }

    /** The place of the letter by which a row is no kin word, or -1. */
    private static int badLetter(String row, int sex) {
        int now = sex;
        for (int i = 0; i < row.length(); i++) {
            char letter = row.charAt(i);
            if (i == 8 || letter == 'h' && now == 1 || letter == 'w' && now == 0) {
                return i;
            }
            now = "fsbh".indexOf(letter) >= 0 ? 1 : 0;
        }
        return -1;
    }

    private static int to(String row, int sex) {
        return row.isEmpty() ? sex : "fsbh".indexOf(row.charAt(row.length() - 1)) >= 0 ? 1 : 0;
    }

    int law() {
        String text = s.tape;
        s.tape = "";
        List<Token> all = tokens(text);
        int one = firstFault(all, List.of(), List.of(List.of("bar|must", "[fmsdbzhw]+", ";"),
            List.of("same", "[fmsdbzhw]+", "[fmsdbzhw]+", ";")));
        List<int[]> faults = new ArrayList<>();
        if (one >= 0) {
            faults.add(new int[] {1, one});
            faulty(faults);
            return -1;
        }
        List<String[]> lines = new ArrayList<>();
        for (int i = 0; i < all.size() - 1; ) {
            boolean same = all.get(i).text().equals("same");
            String first = all.get(i + 1).text();
            String second = same ? all.get(i + 2).text() : "";
            boolean bad = badLetter(first, 1) >= 0;
            if (bad || !same && to(first, 1) == 1) {
                faults.add(new int[] {2, all.get(i + 1).place()});
            }
            if (same && (badLetter(second, 1) >= 0 || !bad && to(first, 1) != to(second, 1))) {
                faults.add(new int[] {2, all.get(i + 2).place()});
            }
            lines.add(new String[] {all.get(i).text(), first, second});
            if (lines.size() == 17) {
                faults.add(new int[] {3, all.get(i).place()});
            }
            i += same ? 4 : 3;
        }
        if (faulty(faults)) {
            return -1;
        }
        s.lines = lines;
        return lines.size();
    }

    int word(int sex) {
        String text = s.tape;
        s.tape = "";
        if (s.words.size() == 8 || sex < 0 || sex > 1) {
            s.fault = 0;
            s.place = -1;
            return -2;
        }
        List<int[]> faults = new ArrayList<>();
        for (int i = 0; i < text.length(); i++) {
            if (LETTERS.indexOf(text.charAt(i)) < 0) {
                faults.add(new int[] {1, i});
            }
        }
        if (text.isEmpty()) {
            faults.add(new int[] {1, 0});
        }
        if (faults.isEmpty() && badLetter(text, sex) >= 0) {
            faults.add(new int[] {2, badLetter(text, sex)});
        }
        if (faulty(faults)) {
            return -1;
        }
        s.words.add(text);
        s.wordSexes.add(sex);
        return s.words.size() - 1;
    }

    int fault(int what) {
        return what == 0 ? s.fault : what == 1 ? s.place : -1;
    }

    // ---- systems

    private static int find(int[] row, int value) {
        for (int i = 0; i < row.length; i++) {
            if (row[i] == value) {
                return i;
            }
        }
        throw new IllegalStateException();
    }

    private boolean classThere(int kind) {
        return s.w != null && kind >= 0 && kind < s.w.length;
    }

    int weds(int kind) {
        return classThere(kind) ? s.w[kind] : -1;
    }

    int child(int kind, boolean mother) {
        return !classThere(kind) ? -1 : mother ? s.c[find(s.w, kind)] : s.c[kind];
    }

    private static boolean proper(int[] w, int[] c) {
        int n = w.length;
        boolean[][] reach = new boolean[n][n];
        for (int i = 0; i < n; i++) {
            if (w[i] == i) {
                return false;
            }
            reach[i][i] = true;
            reach[i][w[i]] = true;
            reach[i][c[i]] = true;
        }
        for (int k = 0; k < n; k++) {
            for (int i = 0; i < n; i++) {
                for (int j = 0; j < n; j++) {
                    reach[i][j] |= reach[i][k] && reach[k][j];
                }
            }
        }
        for (boolean[] row : reach) {
            for (boolean to : row) {
                if (!to) {
                    return false;
                }
            }
        }
        return true;
    }

    private static int[] map(int[] w, int[] c, String word, int sex) {
        int[] to = new int[w.length];
        for (int i = 0; i < w.length; i++) {
            int at = i;
            int who = sex;
            for (char letter : word.toCharArray()) {
                switch (letter) {
                    case 'f': at = find(c, at); break;
                    case 'm': at = w[find(c, at)]; break;
                    case 's': case 'd': at = c[who == 1 ? at : find(w, at)]; break;
                    case 'h': at = find(w, at); break;
                    case 'w': at = w[at]; break;
                    default: break;
                }
                who = "fsbh".indexOf(letter) >= 0 ? 1 : 0;
            }
            to[i] = at;
        }
        return to;
    }

    private static int brokenLine(int[] w, int[] c, List<String[]> lines) {
        for (int k = 0; k < lines.size(); k++) {
            String[] line = lines.get(k);
            int[] to = map(w, c, line[1], 1);
            int brides = 0;
            for (int i = 0; i < w.length; i++) {
                brides += to[i] == w[i] ? 1 : 0;
            }
            boolean kept = line[0].equals("bar") ? brides == 0 : line[0].equals("must") ? brides == w.length
                : Arrays.equals(to, map(w, c, line[2], 1));
            if (!kept) {
                return k;
            }
        }
        return -1;
    }

    boolean is(int what) {
        if (s.w == null || what < 0 || what > 2 || !proper(s.w, s.c)) {
            return false;
        }
        return what == 0 || (what == 1 ? turnsOf() == s.w.length : brokenLine(s.w, s.c, s.lines) == -1);
    }

    int broken() {
        return s.w == null ? -1 : brokenLine(s.w, s.c, s.lines);
    }

    int turnsOf() {
        if (s.w == null) {
            return -1;
        }
        Set<List<Integer>> found = new HashSet<>();
        List<List<Integer>> todo = new ArrayList<>();
        List<Integer> nothing = new ArrayList<>();
        for (int i = 0; i < s.w.length; i++) {
            nothing.add(i);
        }
        found.add(nothing);
        todo.add(nothing);
        while (!todo.isEmpty() && found.size() <= 500) {
            List<Integer> turn = todo.remove(todo.size() - 1);
            for (int[] row : new int[][] {s.w, s.c}) {
                List<Integer> more = new ArrayList<>();
                for (int x : turn) {
                    more.add(row[x]);
                }
                if (found.add(more)) {
                    todo.add(more);
                }
            }
        }
        return found.size() > 500 ? -2 : found.size();
    }

    int comes(int what) {
        if (s.w == null || what < 0 || what > 2) {
            return -1;
        }
        for (int times = 1; ; times++) {
            boolean again = true;
            for (int i = 0; i < s.w.length; i++) {
                int at = i;
                for (int k = 0; k < times; k++) {
                    at = what == 2 ? s.w[at] : child(at, what == 1);
                }
                again &= at == i;
            }
            if (again) {
                return times;
            }
        }
    }

    private List<Integer> halvesOf(int kind) {
        List<Integer> all = new ArrayList<>();
        int n = s.w.length;
        for (int set = 0; set < 1 << n; set++) {
            if ((set & 1) == 0 || Integer.bitCount(set) * 2 != n) {
                continue;
            }
            boolean good = true;
            for (int man = 0; man < n; man++) {
                int wife = s.w[man];
                int child = s.c[man];
                boolean man1 = (set >> man & 1) == 1;
                boolean wife1 = (set >> wife & 1) == 1;
                boolean child1 = (set >> child & 1) == 1;
                switch (kind) {
                    case 0: good &= child1 == man1 && wife1 != man1; break;
                    case 1: good &= child1 == wife1 && wife1 != man1; break;
                    default: good &= wife1 == man1 && child1 != man1; break;
                }
            }
            if (good) {
                all.add(set);
            }
        }
        return all;
    }

    int halves(int kind) {
        return s.w == null || kind < 0 || kind > 2 ? -1 : halvesOf(kind).size();
    }

    int half(int kind, int k) {
        return halves(kind) == -1 || k < 0 || k >= halves(kind) ? -1 : halvesOf(kind).get(k);
    }

    // ---- kin words

    private boolean wordThere(int k) {
        return k >= 0 && k < s.words.size();
    }

    private int[] mapOf(int k) {
        return map(s.w, s.c, s.words.get(k), s.wordSexes.get(k));
    }

    int leads(int k, int kind) {
        return wordThere(k) && classThere(kind) ? mapOf(k)[kind] : -1;
    }

    private String shortest(int k) {
        if (s.w == null || turnsOf() == -2) {
            return null;
        }
        int sex = s.wordSexes.get(k);
        String target = Arrays.toString(mapOf(k)) + to(s.words.get(k), sex);
        Set<String> found = new HashSet<>();
        List<String> level = new ArrayList<>(List.of(""));
        for (int length = 0; length <= 8; length++) {
            List<String> next = new ArrayList<>();
            for (String word : level) {
                String meaning = Arrays.toString(map(s.w, s.c, word, sex)) + to(word, sex);
                if (meaning.equals(target)) {
                    return word;
                }
                if (found.add(meaning)) {
                    for (char letter : LETTERS.toCharArray()) {
                        if (letter != (to(word, sex) == 1 ? 'h' : 'w')) {
                            next.add(word + letter);
                        }
                    }
                }
            }
            level = next;
        }
        throw new IllegalStateException("a word leads nowhere");
    }

    int about(int k, int what) {
        if (!wordThere(k)) {
            return -1;
        }
        switch (what) {
            case 0: return to(s.words.get(k), s.wordSexes.get(k));
            case 1: return s.wordSexes.get(k);
            case 2: return s.words.get(k).length();
            case 3:
                if (s.w == null) {
                    return -1;
                }
                int brides = 0;
                for (int i = 0; i < s.w.length; i++) {
                    brides += mapOf(k)[i] == s.w[i] ? 1 : 0;
                }
                return brides;
            case 4: return shortest(k) == null ? -1 : shortest(k).length();
            default: return -1;
        }
    }

    int letter(int k, int i) {
        if (!wordThere(k)) {
            return -1;
        }
        String word = shortest(k);
        return word == null || i < 0 || i >= word.length() ? -1 : LETTERS.indexOf(word.charAt(i));
    }

    boolean alike(int a, int b) {
        return wordThere(a) && wordThere(b) && s.w != null && s.wordSexes.get(a).equals(s.wordSexes.get(b))
            && about(a, 0) == about(b, 0) && Arrays.equals(mapOf(a), mapOf(b));
    }

    int brides(int n) {
        if (s.w == null || n < 1 || n > 6 || turnsOf() == -2) {
            return -1;
        }
        int[] start = new int[s.w.length];
        for (int i = 0; i < start.length; i++) {
            start[i] = i;
        }
        return bridesFrom(start, 1, n);
    }

    private int bridesFrom(int[] at, int sex, int left) {
        if (left == 0) {
            return sex == 0 && Arrays.equals(at, s.w) ? 1 : 0;
        }
        int found = 0;
        for (char letter : LETTERS.toCharArray()) {
            if (letter != (sex == 1 ? 'h' : 'w')) {
                int[] step = map(s.w, s.c, String.valueOf(letter), sex);
                int[] next = new int[at.length];
                for (int i = 0; i < at.length; i++) {
                    next[i] = step[at[i]];
                }
                found += bridesFrom(next, "fsbh".indexOf(letter) >= 0 ? 1 : 0, left - 1);
            }
        }
        return found;
    }

    // ---- all systems

    private static void orders(int n, List<Integer> part, List<int[]> all) {
        if (part.size() == n) {
            all.add(part.stream().mapToInt(Integer::intValue).toArray());
        }
        for (int i = 0; i < n; i++) {
            if (!part.contains(i)) {
                part.add(i);
                orders(n, part, all);
                part.remove(part.size() - 1);
            }
        }
    }

    private List<int[][]> lawful(int n) {
        List<int[]> all = new ArrayList<>();
        orders(n, new ArrayList<>(), all);
        List<int[][]> found = new ArrayList<>();
        for (int[] w : all) {
            for (int[] c : all) {
                if (proper(w, c) && brokenLine(w, c, s.lines) == -1) {
                    found.add(new int[][] {w, c});
                }
            }
        }
        return found;
    }

    private static String row(int[] w, int[] c) {
        StringBuilder text = new StringBuilder();
        for (int x : w) {
            text.append(x);
        }
        for (int x : c) {
            text.append(x);
        }
        return text.toString();
    }

    private List<String> kindsOf(int n) {
        List<int[]> all = new ArrayList<>();
        orders(n, new ArrayList<>(), all);
        Set<String> least = new TreeSet<>();
        for (int[][] system : lawful(n)) {
            String best = null;
            for (int[] name : all) {
                int[] w = new int[n];
                int[] c = new int[n];
                for (int i = 0; i < n; i++) {
                    w[name[i]] = name[system[0][i]];
                    c[name[i]] = name[system[1][i]];
                }
                String row = row(w, c);
                best = best == null || row.compareTo(best) < 0 ? row : best;
            }
            least.add(best);
        }
        return new ArrayList<>(least);
    }

    int systems(int n) {
        return n < 2 || n > 5 ? -1 : lawful(n).size();
    }

    int kinds(int n) {
        return n < 2 || n > 5 ? -1 : kindsOf(n).size();
    }

    int kind(int n, int k, int i) {
        if (n < 2 || n > 5 || k < 0 || i < 0 || i >= 2 * n) {
            return -1;
        }
        List<String> all = kindsOf(n);
        return k < all.size() ? all.get(k).charAt(i) - '0' : -1;
    }

    // ---- persons

    private boolean isPerson(int p, int sex) {
        return p >= 0 && p < s.sexes.size() && s.sexes.get(p) == sex;
    }

    private boolean isPerson(int p) {
        return p >= 0 && p < s.sexes.size();
    }

    int person(int sex) {
        if (s.sexes.size() == 24 || sex != 0 && sex != 1) {
            return -1;
        }
        s.sexes.add(sex);
        s.parents.add(null);
        return s.sexes.size() - 1;
    }

    boolean parents(int person, int mother, int father) {
        if (!isPerson(person) || mother == -1 && father == -1 || s.parents.get(person) != null
            || mother != -1 && (!isPerson(mother, 0) || mother >= person)
            || father != -1 && (!isPerson(father, 1) || father >= person)) {
            return false;
        }
        s.parents.set(person, new int[] {mother, father, s.day});
        return true;
    }

    int wed(int man, int woman) {
        if (s.weddings.size() == 24 || !isPerson(man, 1) || !isPerson(woman, 0)) {
            return -1;
        }
        for (int[] wedding : s.weddings) {
            if (wedding[0] == man && wedding[1] == woman) {
                return -1;
            }
        }
        s.weddings.add(new int[] {man, woman, s.day});
        return s.weddings.size();
    }

    int tell(int person, int kind) {
        if (s.tellings.size() == 60 || !isPerson(person) || kind < 0 || kind > 7) {
            return -1;
        }
        s.tellings.add(new int[] {person, kind, s.day});
        return s.tellings.size() - 1;
    }

    boolean day(int day) {
        if (day < s.day || day > 999) {
            return false;
        }
        s.day = day;
        return true;
    }

    boolean view(int day) {
        if (day < -1 || day > s.day) {
            return false;
        }
        s.view = day;
        return true;
    }

    private boolean seen(int day) {
        return s.view == -1 || day <= s.view;
    }

    /** What ties two persons: who, whom, and 0 father, 1 mother, 2 wedding. */
    private List<int[]> ties() {
        List<int[]> all = new ArrayList<>();
        for (int p = 0; p < s.sexes.size(); p++) {
            int[] told = s.parents.get(p);
            if (told != null && seen(told[2])) {
                if (told[1] >= 0) {
                    all.add(new int[] {told[1], p, 0});
                }
                if (told[0] >= 0) {
                    all.add(new int[] {told[0], p, 1});
                }
            }
        }
        for (int[] wedding : s.weddings) {
            if (seen(wedding[2])) {
                all.add(new int[] {wedding[0], wedding[1], 2});
            }
        }
        return all;
    }

    private int[] leasts() {
        int[] least = new int[s.sexes.size()];
        for (int i = 0; i < least.length; i++) {
            least[i] = i;
        }
        for (int round = 0; round < least.length; round++) {
            for (int[] tie : ties()) {
                int low = Math.min(least[tie[0]], least[tie[1]]);
                least[tie[0]] = low;
                least[tie[1]] = low;
            }
        }
        return least;
    }

    private boolean tieHolds(int[] tie, int[] kinds) {
        int one = kinds[tie[0]];
        int other = kinds[tie[1]];
        return one < 0 || other < 0
            || (tie[2] == 0 ? s.c[one] == other : tie[2] == 1 ? s.c[find(s.w, one)] == other : s.w[one] == other);
    }

    /** All ways to give a family classes, by trying every class for each next one that is tied to some before. */
    private List<int[]> fits(int least) {
        int[] leasts = leasts();
        List<int[]> ties = ties();
        List<int[]> ways = new ArrayList<>();
        Set<Integer> given = new HashSet<>(Set.of(least));
        for (int r = 0; r < s.w.length; r++) {
            int[] kinds = new int[leasts.length];
            Arrays.fill(kinds, -1);
            kinds[least] = r;
            ways.add(kinds);
        }
        for (int round = 0; round < leasts.length; round++) {
            int next = -1;
            for (int[] tie : ties) {
                if (given.contains(tie[0]) != given.contains(tie[1])) {
                    next = given.contains(tie[0]) ? tie[1] : tie[0];
                }
            }
            if (next < 0) {
                break;
            }
            given.add(next);
            List<int[]> more = new ArrayList<>();
            for (int[] way : ways) {
                for (int r = 0; r < s.w.length; r++) {
                    int[] kinds = way.clone();
                    kinds[next] = r;
                    boolean good = true;
                    for (int[] tie : ties) {
                        good &= tieHolds(tie, kinds);
                    }
                    if (good) {
                        more.add(kinds);
                    }
                }
            }
            ways = more;
        }
        return ways;
    }

    /** The tellings of a family that a way disagrees with. */
    private Set<Integer> against(int least, int[] kinds) {
        Set<Integer> all = new TreeSet<>();
        int[] leasts = leasts();
        for (int k = 0; k < s.tellings.size(); k++) {
            int[] t = s.tellings.get(k);
            if (seen(t[2]) && leasts[t[0]] == least && kinds[t[0]] != t[1]) {
                all.add(k);
            }
        }
        return all;
    }

    private List<int[]> possible(int least) {
        List<int[]> all = new ArrayList<>();
        for (int[] way : fits(least)) {
            if (against(least, way).isEmpty()) {
                all.add(way);
            }
        }
        return all;
    }

    int tells(int person, int what) {
        if (!isPerson(person)) {
            return -2;
        }
        int[] told = s.parents.get(person);
        switch (what) {
            case 0: return s.sexes.get(person);
            case 1: return told == null || !seen(told[2]) ? -1 : told[0];
            case 2: return told == null || !seen(told[2]) ? -1 : told[1];
            case 3: return leasts()[person];
            case 4:
                int bits = 0;
                if (s.w != null) {
                    for (int[] way : possible(leasts()[person])) {
                        bits |= 1 << way[person];
                    }
                }
                return bits;
            default: return -2;
        }
    }

    int told(int k, int what) {
        return k < 0 || k >= s.tellings.size() || what < 0 || what > 2 ? -2 : s.tellings.get(k)[what];
    }

    private Set<Integer> families() {
        Set<Integer> all = new TreeSet<>();
        for (int least : leasts()) {
            all.add(least);
        }
        return all;
    }

    int quarrel(int k) {
        List<Integer> all = new ArrayList<>();
        if (s.w != null) {
            for (int least : families()) {
                if (possible(least).isEmpty()) {
                    all.add(least);
                }
            }
        }
        return k < 0 || k >= all.size() ? -1 : all.get(k);
    }

    private List<Integer> wrongOnes() {
        if (s.w == null) {
            return null;
        }
        Set<Integer> all = new TreeSet<>();
        for (int least : families()) {
            int[] best = null;
            for (int[] way : fits(least)) {
                int fewer = best == null ? -1 : against(least, way).size() - against(least, best).size();
                if (fewer < 0 || fewer == 0 && way[least] < best[least]) {
                    best = way;
                }
            }
            if (best == null) {
                return null;
            }
            all.addAll(against(least, best));
        }
        return new ArrayList<>(all);
    }

    int wrongs() {
        List<Integer> all = wrongOnes();
        return all == null ? -1 : all.size();
    }

    int wrong(int k) {
        List<Integer> all = wrongOnes();
        return all == null || k < 0 || k >= all.size() ? -1 : all.get(k);
    }

    int may(int man, int woman) {
        if (s.w == null || !isPerson(man, 1) || !isPerson(woman, 0)) {
            return -1;
        }
        int his = leasts()[man];
        int hers = leasts()[woman];
        if (possible(his).isEmpty() || possible(hers).isEmpty()) {
            return -1;
        }
        int good = 0;
        int bad = 0;
        for (int[] one : possible(his)) {
            for (int[] other : his == hers ? List.of(one) : possible(hers)) {
                if (s.w[one[man]] == other[woman]) {
                    good++;
                } else {
                    bad++;
                }
            }
        }
        return bad == 0 ? 2 : good == 0 ? 0 : 1;
    }

    int count(int what) {
        switch (what) {
            case 0: return s.w == null ? 0 : s.w.length;
            case 1: return s.lines.size();
            case 2: return s.words.size();
            case 3: return s.sexes.size();
            case 4: return s.weddings.size();
            case 5: return s.tellings.size();
            case 6: return s.day;
            case 7: return s.view;
            case 8: return families().size();
            case 9: return (int) s.tellings.stream().filter(t -> seen(t[2])).count();
            default: return -2;
        }
    }

    boolean image(int k) {
        if (k < 0 || k > 2) {
            return false;
        }
        images[k] = s.copy();
        return true;
    }

    boolean again(int k) {
        if (k < 0 || k > 2 || images[k] == null) {
            return false;
        }
        s = images[k].copy();
        return true;
    }
}
