import java.util.Random;

/** Holds the class against the slow model, call by call, in runs of 512 calls that always come the same. */
public final class OracleTest {
    private static final int RUNS = 400;
    private static final int CALLS = 512;
    private static final String LETTERS = "fmsdbzhw";

    private final int run;
    private final Random random;
    private final SectionHouse house = new SectionHouse();
    private final Model model = new Model();
    private int calls;
    private int wrong;

    private OracleTest(int run) {
        this.run = run;
        this.random = new Random(run * 7919L + 3);
    }

    public static void main(String[] args) {
        int wrong = 0;
        int asked = 0;
        for (int run = 0; run < RUNS; run++) {
            OracleTest test = new OracleTest(run);
            test.play();
            wrong += test.wrong;
            asked += test.calls;
        }
        System.out.println("OracleTest: " + asked + " calls, " + wrong + " not as the model");
        if (wrong != 0 || asked < RUNS * CALLS / 2) {
            System.exit(1);
        }
    }

    private void same(String call, long got, long want) {
        calls++;
        if (got != want && wrong < 3) {
            wrong++;
            System.out.println("run " + run + ", call " + calls + ": " + call + " answered " + got
                + ", the model " + want);
        }
    }

    private void same(String call, boolean got, boolean want) {
        same(call, got ? 1 : 0, want ? 1 : 0);
    }

    private void play() {
        int sort = run % 4;
        while (calls < CALLS - 30 && wrong == 0) {
            int dice = random.nextInt(100);
            if (dice < 3) {
                imageOrAgain();
            } else if (dice < 6) {
                tape();
            } else if (sort == 0) {
                textCalls(dice);
            } else if (sort == 1) {
                kinCalls(dice);
            } else {
                peopleCalls(dice);
            }
        }
    }

    private int near(int low, int high) {
        return random.nextInt(25) == 0 ? extreme() : low + random.nextInt(high - low + 1);
    }

    private int extreme() {
        int[] all = {Integer.MIN_VALUE, Integer.MAX_VALUE, -2, -3, 8, 24, 60, 1000, 1 << 30, 1 << 28};
        return all[random.nextInt(all.length)];
    }

    private void imageOrAgain() {
        int k = near(-1, 3);
        if (random.nextInt(3) == 0) {
            same("again(" + k + ")", house.again(k), model.again(k));
        } else {
            same("image(" + k + ")", house.image(k), model.image(k));
        }
    }

    private void tape() {
        if (random.nextBoolean()) {
            int[] five = new int[5];
            for (int i = 0; i < 5; i++) {
                five[i] = random.nextInt();
            }
            same("feed", house.feed(five[0], five[1], five[2], five[3], five[4]), model.feed(five));
        } else {
            int n = near(-2, 410);
            same("end(" + n + ")", house.end(n), model.end(n));
        }
    }

    private void feed(String text) {
        same("end(0)", house.end(0), model.end(0));
        for (int at = 0; at < text.length(); at += 20) {
            int[] five = new int[5];
            for (int i = 0; i < 20; i++) {
                int sign = at + i < text.length() ? text.charAt(at + i) : 32;
                five[i / 4] = five[i / 4] << 8 | sign;
            }
            same("feed", house.feed(five[0], five[1], five[2], five[3], five[4]), model.feed(five));
        }
        if (random.nextInt(8) != 0) {
            same("end(" + text.length() + ")", house.end(text.length()), model.end(text.length()));
        }
    }

    private int[] order(int n) {
        int[] row = new int[n];
        for (int i = 0; i < n; i++) {
            int k = random.nextInt(i + 1);
            row[i] = row[k];
            row[k] = i;
        }
        return row;
    }

    /** Random orders turn too much, so small groups are made of a few cycles, too. */
    private int[] gentle(int n, int step) {
        int[] row = new int[n];
        for (int i = 0; i < n; i++) {
            row[i] = n % 2 == 0 && step < 3 ? i ^ 1 + step : (i + step) % n;
            row[i] = row[i] < n ? row[i] : i;
        }
        boolean[] seen = new boolean[n];
        for (int x : row) {
            if (seen[x]) {
                return order(n);
            }
            seen[x] = true;
        }
        return row;
    }

    private String systemText() {
        int n = 2 + random.nextInt(7);
        int[] w = random.nextInt(3) == 0 ? order(n) : gentle(n, random.nextInt(5));
        int[] c = random.nextInt(3) == 0 ? order(n) : gentle(n, random.nextInt(5));
        return Due.systemText(w, c);
    }

    private String kinRow(int most) {
        StringBuilder text = new StringBuilder();
        int n = 1 + random.nextInt(most);
        for (int i = 0; i < n; i++) {
            text.append(LETTERS.charAt(random.nextInt(random.nextInt(3) == 0 ? 8 : 6)));
        }
        return text.toString();
    }

    private String lawText() {
        StringBuilder text = new StringBuilder();
        int lines = random.nextInt(12) == 0 ? 14 + random.nextInt(6) : random.nextInt(4);
        for (int i = 0; i < lines; i++) {
            int most = random.nextInt(20) == 0 ? 10 : 4;
            String woman = random.nextInt(9) == 0 ? "" : "mdz".charAt(random.nextInt(3)) + "";
            switch (random.nextInt(3)) {
                case 0: text.append("bar ").append(kinRow(most)).append(woman); break;
                case 1: text.append("must ").append(kinRow(most)).append(woman); break;
                default: text.append("same ").append(kinRow(most)).append(woman).append(' ')
                    .append(kinRow(most)).append(woman); break;
            }
            text.append(';');
        }
        return text.toString();
    }

    private String spoiled(String text) {
        String result = text;
        int times = random.nextInt(3);
        for (int i = 0; i < times && !result.isEmpty(); i++) {
            int at = random.nextInt(result.length());
            String[] bits = {"", " ", "\n", ";", "a", "h", "1", "12345", "weds", "child", "bar f;", "#", "\u00ff", "w"};
            String bit = bits[random.nextInt(bits.length)];
            result = result.substring(0, at) + bit + result.substring(at + random.nextInt(2));
        }
        if (random.nextInt(6) == 0) {
            result = result.substring(0, random.nextInt(result.length() + 1));
        }
        return result.length() > 400 ? result.substring(0, 400) : result;
    }

    private void faults() {
        for (int what = 0; what < 2; what++) {
            same("fault(" + what + ")", house.fault(what), model.fault(what));
        }
        int what = near(-1, 3);
        same("fault(" + what + ")", house.fault(what), model.fault(what));
    }

    private void takeSystem(String text) {
        feed(text);
        same("system() of '" + text + "'", house.system(), model.system());
        faults();
    }

    private void takeLaw(String text) {
        feed(text);
        same("law() of '" + text + "'", house.law(), model.law());
        faults();
    }

    private void takeWord(String text) {
        feed(text);
        int sex = random.nextInt(12) == 0 ? near(-1, 2) : random.nextInt(2);
        same("word(" + sex + ") of '" + text + "'", house.word(sex), model.word(sex));
        faults();
    }

    private void textCalls(int dice) {
        boolean spoil = random.nextInt(3) != 0;
        if (dice < 25) {
            String text = systemText();
            takeSystem(spoil ? spoiled(text) : text);
        } else if (dice < 50) {
            String text = lawText();
            takeLaw(spoil ? spoiled(text) : text);
        } else if (dice < 60) {
            String text = kinRow(9);
            takeWord(spoil ? spoiled(text) : text);
        } else if (dice < 95) {
            systemAsks();
        } else {
            censusAsks();
        }
    }

    private void systemAsks() {
        int kind = near(-1, 8);
        same("weds(" + kind + ")", house.weds(kind), model.weds(kind));
        same("child(" + kind + ", true)", house.child(kind, true), model.child(kind, true));
        same("child(" + kind + ", false)", house.child(kind, false), model.child(kind, false));
        int what = near(-1, 3);
        same("is(" + what + ")", house.is(what), model.is(what));
        same("broken()", house.broken(), model.broken());
        same("turnsOf()", house.turnsOf(), model.turnsOf());
        same("comes(" + what + ")", house.comes(what), model.comes(what));
        same("halves(" + what + ")", house.halves(what), model.halves(what));
        int k = near(-1, 4);
        same("half(" + what + ", " + k + ")", house.half(what, k), model.half(what, k));
        countAsk();
    }

    private void countAsk() {
        int what = near(-1, 10);
        same("count(" + what + ")", house.count(what), model.count(what));
    }

    private void censusAsks() {
        int n = random.nextInt(10) == 0 ? 5 : near(1, 4);
        same("systems(" + n + ")", house.systems(n), model.systems(n));
        same("kinds(" + n + ")", house.kinds(n), model.kinds(n));
        int k = near(-1, 12);
        int i = near(-1, 10);
        same("kind(" + n + ", " + k + ", " + i + ")", house.kind(n, k, i), model.kind(n, k, i));
    }

    private void kinCalls(int dice) {
        if (dice < 12) {
            takeSystem(systemText());
        } else if (dice < 30) {
            takeWord(kinRow(random.nextInt(5) == 0 ? 9 : 5));
        } else if (dice < 36) {
            systemAsks();
        } else if (dice < 38) {
            int n = near(0, 5);
            same("brides(" + n + ")", house.brides(n), model.brides(n));
        } else {
            kinAsks();
        }
    }

    private void kinAsks() {
        int k = near(-1, 8);
        int other = near(-1, 8);
        int what = near(-1, 5);
        switch (random.nextInt(4)) {
            case 0: same("leads(" + k + ", " + other + ")", house.leads(k, other), model.leads(k, other)); break;
            case 1: same("about(" + k + ", " + what + ")", house.about(k, what), model.about(k, what)); break;
            case 2: same("letter(" + k + ", " + what + ")", house.letter(k, what), model.letter(k, what)); break;
            default: same("alike(" + k + ", " + other + ")", house.alike(k, other), model.alike(k, other)); break;
        }
    }

    private void peopleCalls(int dice) {
        int most = run % 8 == 2 ? 24 : 9;
        if (dice < 9) {
            takeSystem(systemText());
        } else if (dice < 20 && model.count(3) < most || dice == 20) {
            int sex = near(0, 1);
            same("person(" + sex + ")", house.person(sex), model.person(sex));
        } else if (dice < 32) {
            tellParents(most);
        } else if (dice < 38) {
            int man = near(-1, most);
            int woman = near(-1, most);
            same("wed(" + man + ", " + woman + ")", house.wed(man, woman), model.wed(man, woman));
        } else if (dice < 46) {
            int person = near(-1, most);
            int kind = random.nextInt(3) == 0 ? near(-1, 8) : random.nextInt(4);
            same("tell(" + person + ", " + kind + ")", house.tell(person, kind), model.tell(person, kind));
        } else if (dice < 50) {
            days();
        } else {
            peopleAsks(most);
        }
    }

    private void tellParents(int most) {
        int person = near(0, most);
        int mother = near(-1, most);
        int father = near(-1, most);
        same("parents(" + person + ", " + mother + ", " + father + ")",
            house.parents(person, mother, father), model.parents(person, mother, father));
    }

    private void days() {
        int now = model.count(6);
        int day = random.nextInt(8) == 0 ? near(990, 1001) : now + random.nextInt(4) - 1;
        same("day(" + day + ")", house.day(day), model.day(day));
        if (random.nextInt(2) == 0) {
            int view = random.nextInt(2) == 0 ? -1 : near(now - 6, now + 2);
            same("view(" + view + ")", house.view(view), model.view(view));
        }
    }

    private void peopleAsks(int most) {
        int p = near(-1, most);
        int q = near(-1, most);
        int what = near(-1, 5);
        int k = near(-1, 4);
        switch (random.nextInt(9)) {
            case 0: same("told(" + k + ", " + what + ")", house.told(k, what), model.told(k, what)); break;
            case 1: same("quarrel(" + k + ")", house.quarrel(k), model.quarrel(k)); break;
            case 2: same("wrongs()", house.wrongs(), model.wrongs()); break;
            case 3: same("wrong(" + k + ")", house.wrong(k), model.wrong(k)); break;
            case 4: case 5: same("may(" + p + ", " + q + ")", house.may(p, q), model.may(p, q)); break;
            case 6: countAsk(); break;
            default: same("tells(" + p + ", " + what + ")", house.tells(p, what), model.tells(p, what)); break;
        }
    }
}
