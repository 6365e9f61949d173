import java.util.Arrays;

/** A people parted in classes: who weds whom, of which class children are, and what follows for persons. */
public final class SectionHouse {
    public static final int NONE = -1;

    private static final int NO_SUCH = -2;
    private static final int WOMAN = 0;
    private static final int MAN = 1;
    private static final int MOST_CLASSES = 8;
    private static final int MOST_WORDS = 8;
    private static final int MOST_IMAGES = 3;
    private static final int LEAST_CENSUS = 2;
    private static final int MOST_CENSUS = 5;
    private static final int LONGEST_BRIDES = 6;

    private final State now = new State();
    private final State[] images = new State[MOST_IMAGES];
    private final Texts texts = new Texts();
    private final Turns turns = new Turns();
    private final Kinship kinship = new Kinship();
    private final Census[] censuses = new Census[MOST_CENSUS - LEAST_CENSUS + 1];

    public SectionHouse() {
    }

    public int feed(int a, int b, int c, int d, int e) {
        return now.tape.append(a, b, c, d, e);
    }

    public int end(int n) {
        return now.tape.cut(n);
    }

    public int system() {
        if (!texts.readSystem(now.tape)) {
            return NONE;
        }
        now.wheel.copyFrom(texts.wheel);
        kinship.forget();
        return now.wheel.size;
    }

    public int law() {
        if (!texts.readLaw(now.tape)) {
            return NONE;
        }
        now.law.copyFrom(texts.law);
        return now.law.count;
    }

    public int word(int sex) {
        if (!isSex(sex) || now.wordCount >= MOST_WORDS) {
            now.tape.take(0, NONE);
            return NO_SUCH;
        }
        int kin = texts.readKin(now.tape, sex);
        return kin == NONE ? NONE : now.addWord(kin);
    }

    public int fault(int what) {
        switch (what) {
            case 0: return now.tape.fault;
            case 1: return now.tape.place;
            default: return NONE;
        }
    }

    public int weds(int kind) {
        return now.wheel.wifeOf(kind);
    }

    public int child(int kind, boolean mother) {
        return now.wheel.childOf(mother ? WOMAN : MAN, kind);
    }

    public boolean is(int what) {
        Wheel wheel = now.wheel;
        if (wheel.size == 0) {
            return false;
        }
        switch (what) {
            case 0: return wheel.isProper();
            case 1: return wheel.isProper() && turns.countOf(wheel) == wheel.size;
            case 2: return wheel.isProper() && now.law.firstBroken(wheel) == NONE;
            default: return false;
        }
    }

    public int broken() {
        return now.wheel.size == 0 ? NONE : now.law.firstBroken(now.wheel);
    }

    public int leads(int k, int kind) {
        int kin = now.wordAt(k);
        return kin == NONE ? NONE : now.wheel.follow(kin, kind);
    }

    public int about(int k, int what) {
        int kin = now.wordAt(k);
        if (kin == NONE) {
            return NONE;
        }
        switch (what) {
            case 0: return Kin.to(kin);
            case 1: return Kin.from(kin);
            case 2: return Kin.size(kin);
            case 3: return now.wheel.size == 0 ? NONE : now.wheel.bridesBy(kin);
            case 4: return shortestSize(kin);
            default: return NONE;
        }
    }

    public int letter(int k, int i) {
        int kin = now.wordAt(k);
        if (kin == NONE || i < 0 || i >= shortestSize(kin)) {
            return NONE;
        }
        return Kin.letterAt(turns.shortest(now.wheel, kin), i);
    }

    public boolean alike(int a, int b) {
        int first = now.wordAt(a);
        int second = now.wordAt(b);
        return first != NONE && second != NONE && now.wheel.size > 0 && now.wheel.meansSame(first, second);
    }

    public int brides(int n) {
        if (now.wheel.size == 0 || n < 1 || n > LONGEST_BRIDES) {
            return NONE;
        }
        return turns.bridesOf(now.wheel, n);
    }

    public int turnsOf() {
        return now.wheel.size == 0 ? NONE : turns.countOf(now.wheel);
    }

    public int comes(int what) {
        Wheel wheel = now.wheel;
        if (wheel.size == 0) {
            return NONE;
        }
        switch (what) {
            case 0: return wheel.roundOf(Kin.SON, MAN);
            case 1: return wheel.roundOf(Kin.SON, WOMAN);
            case 2: return wheel.roundOf(Kin.WIFE, MAN);
            default: return NONE;
        }
    }

    public int halves(int kind) {
        return isHalving(kind) ? now.wheel.halvings(kind) : NONE;
    }

    public int half(int kind, int k) {
        return isHalving(kind) && k >= 0 ? now.wheel.halving(kind, k) : NONE;
    }

    public int systems(int n) {
        Census census = censusOf(n);
        return census == null ? NONE : census.lawfulSystems;
    }

    public int kinds(int n) {
        Census census = censusOf(n);
        return census == null ? NONE : census.lawfulCount;
    }

    public int kind(int n, int k, int i) {
        Census census = censusOf(n);
        return census == null ? NONE : census.rowEntry(k, i);
    }

    public int person(int sex) {
        kinship.forget();
        return isSex(sex) ? now.people.addPerson(sex) : NONE;
    }

    public boolean parents(int person, int mother, int father) {
        kinship.forget();
        return now.people.addParents(person, mother, father);
    }

    public int wed(int man, int woman) {
        kinship.forget();
        return now.people.addWedding(man, woman);
    }

    public int tell(int person, int kind) {
        kinship.forget();
        return now.people.addTelling(person, kind);
    }

    public boolean day(int day) {
        return now.people.moveDay(day);
    }

    public boolean view(int day) {
        kinship.forget();
        return now.people.moveView(day);
    }

    public int tells(int person, int what) {
        People people = now.people;
        if (!people.has(person)) {
            return NO_SUCH;
        }
        switch (what) {
            case 0: return people.sexOf(person);
            case 1: return people.parentSeen(person, WOMAN);
            case 2: return people.parentSeen(person, MAN);
            case 3: return found().leastOf(person);
            case 4: return found().classesOf(person);
            default: return NO_SUCH;
        }
    }

    public int told(int k, int what) {
        return now.people.tellingPart(k, what);
    }

    public int quarrel(int k) {
        return now.wheel.size == 0 || k < 0 ? NONE : found().quarrelAt(k);
    }

    public int wrongs() {
        return now.wheel.size == 0 ? NONE : found().wrongCount(now.people);
    }

    public int wrong(int k) {
        return now.wheel.size == 0 || k < 0 ? NONE : found().wrongAt(now.people, k);
    }

    public int may(int man, int woman) {
        People people = now.people;
        if (now.wheel.size == 0 || people.sexOf(man) != MAN || people.sexOf(woman) != WOMAN) {
            return NONE;
        }
        return found().mayWed(man, woman, now.wheel);
    }

    public int count(int what) {
        switch (what) {
            case 0: return now.wheel.size;
            case 1: return now.law.count;
            case 2: return now.wordCount;
            case 3: return now.people.count;
            case 4: return now.people.weddings;
            case 5: return now.people.tellings;
            case 6: return now.people.today;
            case 7: return now.people.seenTo;
            case 8: return found().families;
            case 9: return now.people.tellingsSeen();
            default: return NO_SUCH;
        }
    }

    public boolean image(int k) {
        if (k < 0 || k >= images.length) {
            return false;
        }
        if (images[k] == null) {
            images[k] = new State();
        }
        images[k].copyFrom(now);
        return true;
    }

    public boolean again(int k) {
        if (k < 0 || k >= images.length || images[k] == null) {
            return false;
        }
        now.copyFrom(images[k]);
        kinship.forget();
        return true;
    }

    private static boolean isSex(int sex) {
        return sex == WOMAN || sex == MAN;
    }

    private boolean isHalving(int kind) {
        return now.wheel.size > 0 && kind >= 0 && kind <= 2;
    }

    private int shortestSize(int kin) {
        if (now.wheel.size == 0) {
            return NONE;
        }
        int shortest = turns.shortest(now.wheel, kin);
        return shortest == NONE ? NONE : Kin.size(shortest);
    }

    private Kinship found() {
        kinship.find(now.people, now.wheel);
        return kinship;
    }

    private Census censusOf(int n) {
        int i = n - LEAST_CENSUS;
        if (n < LEAST_CENSUS || n > MOST_CENSUS || i >= censuses.length) {
            return null;
        }
        if (censuses[i] == null) {
            censuses[i] = new Census(n);
        }
        censuses[i].judge(now.law);
        return censuses[i];
    }

    /** The entry, or NONE where the row has none. */
    private static int entry(int[] row, int i) {
        return i >= 0 && i < row.length ? row[i] : NONE;
    }

    private static void set(int[] row, int i, int value) {
        if (i >= 0 && i < row.length) {
            row[i] = value;
        }
    }

    /** All that is told: what an image keeps. */
    private static final class State {
        final Tape tape = new Tape();
        final Wheel wheel = new Wheel();
        final Law law = new Law();
        final People people = new People();
        private final int[] words = new int[MOST_WORDS];
        int wordCount;

        void copyFrom(State other) {
            tape.copyFrom(other.tape);
            wheel.copyFrom(other.wheel);
            law.copyFrom(other.law);
            people.copyFrom(other.people);
            System.arraycopy(other.words, 0, words, 0, MOST_WORDS);
            wordCount = other.wordCount;
        }

        int addWord(int kin) {
            if (wordCount < 0 || wordCount >= words.length) {
                return NONE;
            }
            words[wordCount] = kin;
            wordCount++;
            return wordCount - 1;
        }

        int wordAt(int k) {
            return k < wordCount ? entry(words, k) : NONE;
        }
    }

    /** The bytes that are fed, and the fault of what was last taken from them. */
    private static final class Tape {
        static final int MOST = 400;
        private static final int FEED = 20;

        final byte[] bytes = new byte[MOST];
        int length;
        int fault;
        int place = NONE;

        void copyFrom(Tape other) {
            System.arraycopy(other.bytes, 0, bytes, 0, MOST);
            length = other.length;
            fault = other.fault;
            place = other.place;
        }

        int append(int a, int b, int c, int d, int e) {
            if (length + FEED > MOST) {
                return NONE;
            }
            put(a);
            put(b);
            put(c);
            put(d);
            put(e);
            return length;
        }

        private void put(int number) {
            for (int shift = 24; shift >= 0; shift -= 8) {
                if (length >= 0 && length < bytes.length) {
                    bytes[length] = (byte) (number >> shift);
                    length++;
                }
            }
        }

        int cut(int n) {
            if (n < 0 || n > length) {
                return NONE;
            }
            length = n;
            return n;
        }

        /** Every text that is asked for takes the tape, whatever is answered. */
        void take(int newFault, int newPlace) {
            length = 0;
            fault = newFault;
            place = newPlace;
        }
    }

    /** Parts the tape in tokens, one at a time, and keeps the fault that counts. */
    private static final class Reader {
        private static final int WORD = 1;
        private static final int NUMBER = 2;
        private static final int MARK = 3;
        private static final int END = 4;
        private static final int NO_TOKEN = 5;
        private static final int MOST_DIGITS = 4;

        private Tape tape;
        private int sort;
        private int after;
        int length;
        int start;
        int fault;
        int place;

        void open(Tape taken) {
            tape = taken;
            length = taken.length;
            fault = 0;
            place = NONE;
            after = 0;
        }

        /** The tape is empty only now: until here the reader reads from it. */
        boolean close() {
            if (tape != null) {
                tape.take(fault, place);
            }
            return fault == 0;
        }

        int size() {
            return after - start;
        }

        boolean atEnd() {
            return sort == END;
        }

        int byteAt(int i) {
            if (tape == null || i < 0 || i >= length || i >= tape.bytes.length) {
                return NONE;
            }
            return tape.bytes[i] & 255;
        }

        void next() {
            start = skipBlanks();
            int first = byteAt(start);
            after = start + 1;
            if (isLetter(first)) {
                after = endOfRow('a', 'z');
                sort = WORD;
            } else if (first >= '0' && first <= '9') {
                after = endOfRow('0', '9');
                sort = size() > MOST_DIGITS ? NO_TOKEN : NUMBER;
            } else if (first == ';') {
                sort = MARK;
            } else if (first == NONE) {
                sort = END;
                after = start;
            } else {
                sort = NO_TOKEN;
            }
        }

        private int skipBlanks() {
            for (int i = after; i < length; i++) {
                if (byteAt(i) != ' ' && byteAt(i) != '\n') {
                    return i;
                }
            }
            return length;
        }

        private int endOfRow(int low, int high) {
            for (int i = start; i < length; i++) {
                if (byteAt(i) < low || byteAt(i) > high) {
                    return i;
                }
            }
            return length;
        }

        private static boolean isLetter(int sign) {
            return sign >= 'a' && sign <= 'z';
        }

        boolean isWord(String word) {
            if (sort != WORD || size() != word.length()) {
                return false;
            }
            for (int i = 0; i < word.length(); i++) {
                if (byteAt(start + i) != word.charAt(i)) {
                    return false;
                }
            }
            return true;
        }

        boolean isKinRow() {
            if (sort != WORD) {
                return false;
            }
            for (int i = start; i < after; i++) {
                if (Kin.letterOf(byteAt(i)) == NONE) {
                    return false;
                }
            }
            return true;
        }

        boolean takeWord(String word) {
            if (!isWord(word)) {
                return refuse();
            }
            next();
            return true;
        }

        boolean takeMark() {
            if (sort != MARK) {
                return refuse();
            }
            next();
            return true;
        }

        /** The number, or NONE behind a fault. */
        int takeNumber() {
            if (sort != NUMBER) {
                refuse();
                return NONE;
            }
            int value = 0;
            for (int i = start; i < after; i++) {
                value = value * 10 + byteAt(i) - '0';
            }
            next();
            return value;
        }

        /** The class, or NONE behind a fault. */
        int takeClass() {
            int value = byteAt(start) - 'a';
            if (sort != WORD || size() != 1 || value >= MOST_CLASSES) {
                refuse();
                return NONE;
            }
            next();
            return value;
        }

        /** Fault 1 outdoes all faults of meaning, wherever they stand. */
        boolean refuse() {
            fault = 1;
            place = start;
            return false;
        }

        /** Texts are judged in the order of places, so the first blame is the one that counts. */
        void blame(int newFault, int newPlace) {
            if (fault == 0) {
                fault = newFault;
                place = newPlace;
            }
        }
    }

    /** Reads systems, laws and kin words; what was read stands here until it is taken over. */
    private static final class Texts {
        private final Reader reader = new Reader();
        final Wheel wheel = new Wheel();
        final Law law = new Law();

        boolean readSystem(Tape tape) {
            reader.open(tape);
            reader.next();
            boolean whole = readHead();
            for (int i = 0; i < Tape.MOST && whole && !reader.atEnd(); i++) {
                whole = readTie();
            }
            if (!wheel.isTold()) {
                reader.blame(4, reader.length);
            }
            if (!wheel.isOneToOne()) {
                reader.blame(5, 0);
            }
            wheel.turnBack();
            return reader.close();
        }

        private boolean readHead() {
            wheel.clear(0);
            if (!reader.takeWord("classes")) {
                return false;
            }
            int place = reader.start;
            int size = reader.takeNumber();
            if (size == NONE || !reader.takeMark()) {
                return false;
            }
            if (size < 2 || size > MOST_CLASSES) {
                reader.blame(2, place);
                return true;
            }
            wheel.clear(size);
            return true;
        }

        private boolean readTie() {
            int place = reader.start;
            boolean weds = reader.isWord("weds");
            if (!reader.takeWord(weds ? "weds" : "child")) {
                return false;
            }
            int onePlace = reader.start;
            int one = reader.takeClass();
            if (one == NONE) {
                return false;
            }
            int otherPlace = reader.start;
            int other = reader.takeClass();
            if (other == NONE || !reader.takeMark()) {
                return false;
            }
            if (wheel.tieOf(weds, one) != NONE) {
                reader.blame(3, place);
            }
            if (one >= wheel.size) {
                reader.blame(2, onePlace);
            }
            if (other >= wheel.size) {
                reader.blame(2, otherPlace);
            }
            wheel.tie(weds, one, other);
            return true;
        }

        boolean readLaw(Tape tape) {
            reader.open(tape);
            reader.next();
            law.count = 0;
            boolean whole = true;
            for (int i = 0; i < Tape.MOST && whole && !reader.atEnd(); i++) {
                whole = readLine();
            }
            return reader.close();
        }

        private boolean readLine() {
            int linePlace = reader.start;
            int sort = sortOfLine();
            if (sort == NONE) {
                return reader.refuse();
            }
            reader.next();
            int firstPlace = reader.start;
            if (!reader.isKinRow()) {
                return reader.refuse();
            }
            int first = kinOfToken();
            int secondPlace = reader.start;
            int second = NONE;
            if (sort == Law.SAME) {
                if (!reader.isKinRow()) {
                    return reader.refuse();
                }
                second = kinOfToken();
            }
            if (!reader.takeMark()) {
                return false;
            }
            if (!law.add(sort, first, second)) {
                reader.blame(3, linePlace);
            }
            if (first == NONE || sort != Law.SAME && Kin.to(first) != WOMAN) {
                reader.blame(2, firstPlace);
            } else if (sort == Law.SAME && (second == NONE || Kin.to(second) != Kin.to(first))) {
                reader.blame(2, secondPlace);
            }
            return true;
        }

        private int sortOfLine() {
            if (reader.isWord("bar")) {
                return Law.BAR;
            }
            if (reader.isWord("must")) {
                return Law.MUST;
            }
            return reader.isWord("same") ? Law.SAME : NONE;
        }

        /** The token as a kin word from a man on, or NONE; the reader stands behind it then. */
        private int kinOfToken() {
            int kin = Kin.of(MAN, 0, 0);
            for (int i = 0; i < reader.size() && kin != NONE; i++) {
                kin = Kin.with(kin, Kin.letterOf(reader.byteAt(reader.start + i)));
            }
            reader.next();
            return kin;
        }

        int readKin(Tape tape, int sex) {
            reader.open(tape);
            int kin = Kin.of(sex, 0, 0);
            for (int i = 0; i < reader.length; i++) {
                int letter = Kin.letterOf(reader.byteAt(i));
                if (letter == NONE) {
                    reader.start = i;
                    reader.refuse();
                    break;
                }
                kin = Kin.with(kin, letter);
                if (kin == NONE) {
                    reader.blame(2, i);
                }
            }
            if (reader.length == 0) {
                reader.blame(1, 0);
            }
            return reader.close() ? kin : NONE;
        }
    }

    /** A kin word as one number: three bits a letter, the first one lowest, its length, and from whom. */
    private static final class Kin {
        static final String LETTERS = "fmsdbzhw";
        static final int FATHER = 0;
        static final int MOTHER = 1;
        static final int SON = 2;
        static final int DAUGHTER = 3;
        static final int HUSBAND = 6;
        static final int WIFE = 7;
        static final int MOST = 8;
        private static final int SIZE_BIT = 24;
        private static final int SEX_BIT = 28;

        static int letterOf(int sign) {
            for (int i = 0; i < LETTERS.length(); i++) {
                if (LETTERS.charAt(i) == sign) {
                    return i;
                }
            }
            return NONE;
        }

        static int of(int sex, int length, int letters) {
            return sex << SEX_BIT | length << SIZE_BIT | letters;
        }

        static int from(int kin) {
            return kin >> SEX_BIT & 1;
        }

        static int size(int kin) {
            return kin >> SIZE_BIT & 15;
        }

        static int letterAt(int kin, int i) {
            return kin >> 3 * i & 7;
        }

        /** Men and women take turns in the order of the letters. */
        static int sexOf(int letter) {
            return (letter & 1) == 0 ? MAN : WOMAN;
        }

        static int to(int kin) {
            int size = size(kin);
            return size == 0 ? from(kin) : sexOf(letterAt(kin, size - 1));
        }

        static boolean fits(int sex, int letter) {
            return letter != (sex == MAN ? HUSBAND : WIFE);
        }

        /** The kin word with one letter more; NONE if that is none, or it was none before. */
        static int with(int kin, int letter) {
            if (kin == NONE || letter == NONE || size(kin) >= MOST || !fits(to(kin), letter)) {
                return NONE;
            }
            return kin + (1 << SIZE_BIT) | letter << 3 * size(kin);
        }
    }

    /** A system: whom the men of a class wed, of which class their children are, and both backwards. */
    private static final class Wheel {
        /** Eight classes turn in rounds of five and three at the longest: all come again after fifteen steps. */
        private static final int LONGEST_ROUND = 15;

        private final int[] wife = new int[MOST_CLASSES];
        private final int[] child = new int[MOST_CLASSES];
        private final int[] husband = new int[MOST_CLASSES];
        private final int[] father = new int[MOST_CLASSES];
        int size;

        void copyFrom(Wheel other) {
            System.arraycopy(other.wife, 0, wife, 0, MOST_CLASSES);
            System.arraycopy(other.child, 0, child, 0, MOST_CLASSES);
            System.arraycopy(other.husband, 0, husband, 0, MOST_CLASSES);
            System.arraycopy(other.father, 0, father, 0, MOST_CLASSES);
            size = other.size;
        }

        void clear(int newSize) {
            size = newSize;
            Arrays.fill(wife, NONE);
            Arrays.fill(child, NONE);
        }

        int tieOf(boolean weds, int one) {
            return entry(weds ? wife : child, one);
        }

        void tie(boolean weds, int one, int other) {
            set(weds ? wife : child, one, other);
        }

        boolean isTold() {
            for (int i = 0; i < size; i++) {
                if (entry(wife, i) == NONE || entry(child, i) == NONE) {
                    return false;
                }
            }
            return true;
        }

        boolean isOneToOne() {
            int wives = 0;
            int children = 0;
            for (int i = 0; i < size; i++) {
                wives |= 1 << entry(wife, i);
                children |= 1 << entry(child, i);
            }
            int all = (1 << size) - 1;
            return wives == all && children == all;
        }

        void turnBack() {
            for (int i = 0; i < size; i++) {
                set(husband, entry(wife, i), i);
                set(father, entry(child, i), i);
            }
        }

        boolean has(int kind) {
            return kind >= 0 && kind < size;
        }

        int wifeOf(int kind) {
            return has(kind) ? entry(wife, kind) : NONE;
        }

        int childOf(int sex, int kind) {
            if (!has(kind)) {
                return NONE;
            }
            return entry(child, sex == MAN ? kind : entry(husband, kind));
        }

        /** Where one step of a kin word leads, from a class that there is; & 7 keeps to the rows' eight entries. */
        int step(int letter, int sex, int kind) {
            int i = kind & 7;
            switch (letter) {
                case Kin.FATHER: return father[i];
                case Kin.MOTHER: return wife[father[i] & 7];
                case Kin.SON:
                case Kin.DAUGHTER: return child[sex == MAN ? i : husband[i] & 7];
                case Kin.HUSBAND: return husband[i];
                case Kin.WIFE: return wife[i];
                default: return kind;
            }
        }

        int follow(int kin, int kind) {
            if (!has(kind)) {
                return NONE;
            }
            int sex = Kin.from(kin);
            int reached = kind;
            for (int i = 0; i < Kin.size(kin); i++) {
                int letter = Kin.letterAt(kin, i);
                reached = step(letter, sex, reached);
                sex = Kin.sexOf(letter);
            }
            return reached;
        }

        /** From how many classes a kin word leads to the class that its men wed. */
        int bridesBy(int kin) {
            int brides = 0;
            for (int i = 0; i < size; i++) {
                if (follow(kin, i) == entry(wife, i)) {
                    brides++;
                }
            }
            return brides;
        }

        boolean keeps(int sort, int first, int second) {
            for (int i = 0; i < size; i++) {
                int reached = follow(first, i);
                boolean atBride = reached == entry(wife, i);
                if (sort == Law.BAR && atBride || sort == Law.MUST && !atBride) {
                    return false;
                }
                if (sort == Law.SAME && reached != follow(second, i)) {
                    return false;
                }
            }
            return true;
        }

        boolean meansSame(int first, int second) {
            if (Kin.from(first) != Kin.from(second) || Kin.to(first) != Kin.to(second)) {
                return false;
            }
            for (int i = 0; i < size; i++) {
                if (follow(first, i) != follow(second, i)) {
                    return false;
                }
            }
            return true;
        }

        boolean isProper() {
            for (int i = 0; i < size; i++) {
                if (entry(wife, i) == i) {
                    return false;
                }
            }
            return reachedFromFirst() == (1 << size) - 1;
        }

        /** Turning rows one-to-one always come back, so what the first class reaches reaches all of that. */
        private int reachedFromFirst() {
            int reached = 1;
            for (int round = 0; round < size; round++) {
                for (int i = 0; i < size; i++) {
                    if ((reached >> i & 1) != 0) {
                        reached |= 1 << entry(wife, i) | 1 << entry(child, i);
                    }
                }
            }
            return reached;
        }

        /** How often a step is done until all classes come again. */
        int roundOf(int letter, int sex) {
            for (int times = 1; times <= LONGEST_ROUND; times++) {
                if (comesAgain(letter, sex, times)) {
                    return times;
                }
            }
            return NONE;
        }

        private boolean comesAgain(int letter, int sex, int times) {
            for (int i = 0; i < size; i++) {
                int reached = i;
                for (int k = 0; k < times; k++) {
                    reached = step(letter, sex, reached);
                }
                if (reached != i) {
                    return false;
                }
            }
            return true;
        }

        int halvings(int kind) {
            int found = 0;
            for (int bits = 1; bits < 1 << size; bits += 2) {
                if (halvesBy(kind, bits)) {
                    found++;
                }
            }
            return found;
        }

        int halving(int kind, int k) {
            int left = k;
            for (int bits = 1; bits < 1 << size; bits += 2) {
                if (halvesBy(kind, bits)) {
                    if (left == 0) {
                        return bits;
                    }
                    left--;
                }
            }
            return NONE;
        }

        private boolean halvesBy(int kind, int bits) {
            if (Integer.bitCount(bits) * 2 != size) {
                return false;
            }
            int parent = kind == 1 ? WOMAN : MAN;
            boolean spousesStay = kind == 2;
            for (int i = 0; i < size; i++) {
                boolean spouseStays = sameHalf(bits, i, entry(wife, i));
                boolean childStays = sameHalf(bits, i, childOf(parent, i));
                if (spouseStays != spousesStay || childStays == spousesStay) {
                    return false;
                }
            }
            return true;
        }

        private static boolean sameHalf(int bits, int i, int k) {
            return (bits >> i & 1) == (bits >> k & 1);
        }

        /** Writes a row of both turns that is known to be one-to-one. */
        void put(int newSize, int wives, int children) {
            clear(newSize);
            for (int i = 0; i < newSize; i++) {
                tie(true, i, Census.numberAt(newSize, wives, i));
                tie(false, i, Census.numberAt(newSize, children, i));
            }
            turnBack();
        }

        int packed(boolean weds) {
            int code = 0;
            for (int i = 0; i < size; i++) {
                code |= (tieOf(weds, i) & 7) << 3 * i;
            }
            return code;
        }
    }

    /** The lines that systems are judged by. */
    private static final class Law {
        static final int BAR = 0;
        static final int MUST = 1;
        static final int SAME = 2;
        private static final int MOST = 16;

        private final int[] sort = new int[MOST];
        private final int[] first = new int[MOST];
        private final int[] second = new int[MOST];
        int count;

        void copyFrom(Law other) {
            System.arraycopy(other.sort, 0, sort, 0, MOST);
            System.arraycopy(other.first, 0, first, 0, MOST);
            System.arraycopy(other.second, 0, second, 0, MOST);
            count = other.count;
        }

        boolean add(int newSort, int newFirst, int newSecond) {
            if (count < 0 || count >= MOST) {
                return false;
            }
            sort[count] = newSort;
            first[count] = newFirst;
            second[count] = newSecond;
            count++;
            return true;
        }

        boolean sameAs(Law other) {
            if (count != other.count) {
                return false;
            }
            for (int i = 0; i < count && i < MOST; i++) {
                if (sort[i] != other.sort[i] || first[i] != other.first[i] || second[i] != other.second[i]) {
                    return false;
                }
            }
            return true;
        }

        int firstBroken(Wheel wheel) {
            for (int i = 0; i < count && i < MOST; i++) {
                if (!wheel.keeps(sort[i], first[i], second[i])) {
                    return i;
                }
            }
            return NONE;
        }
    }

    /** All turns of a system, and the kin words as ways among them; kept until another system is asked about. */
    private static final class Turns {
        private static final int MOST = 500;
        private static final int STATES = 2 * MOST;
        private static final int SLOT_BITS = 11;
        private static final int SLOTS = 1 << SLOT_BITS;
        private static final int SPREAD = 0x9E3779B1;
        private static final int BEGIN = -2;

        private int size;
        private int wives;
        private int children;
        private int count;
        private boolean many;
        private final int[] turn = new int[MOST];
        private final int[] slot = new int[SLOTS];
        private final int[] byWife = new int[MOST];
        private final int[] byChild = new int[MOST];
        private final int[] byHusband = new int[MOST];
        private final int[] byFather = new int[MOST];
        private final boolean[] searched = new boolean[2];
        private final int[][] before = new int[2][STATES];
        private final int[] queue = new int[STATES];
        private final int[] ways = new int[STATES];
        private final int[] nextWays = new int[STATES];

        int countOf(Wheel wheel) {
            gather(wheel);
            return many ? NO_SUCH : count;
        }

        private void gather(Wheel wheel) {
            int newWives = wheel.packed(true);
            int newChildren = wheel.packed(false);
            if (size == wheel.size && wives == newWives && children == newChildren) {
                return;
            }
            size = wheel.size;
            wives = newWives;
            children = newChildren;
            many = false;
            count = 0;
            searched[WOMAN] = false;
            searched[MAN] = false;
            Arrays.fill(slot, 0);
            numberOf(nothingDone());
            for (int i = 0; i < count && i < MOST && !many; i++) {
                byWife[i] = numberOf(behind(turn[i], wives));
                byChild[i] = numberOf(behind(turn[i], children));
            }
            for (int i = 0; i < count && i < MOST && !many; i++) {
                set(byHusband, byWife[i], i);
                set(byFather, byChild[i], i);
            }
        }

        private int nothingDone() {
            int code = 0;
            for (int i = 0; i < size; i++) {
                code |= i << 3 * i;
            }
            return code;
        }

        private int behind(int done, int step) {
            int code = 0;
            for (int i = 0; i < size; i++) {
                code |= (step >> 3 * (done >> 3 * i & 7) & 7) << 3 * i;
            }
            return code;
        }

        /** The number of a turn, which is a new one if there was none; NONE if there are too many. */
        private int numberOf(int code) {
            int place = code * SPREAD >>> 32 - SLOT_BITS;
            for (int i = 0; i < SLOTS; i++) {
                int held = entry(slot, place) - 1;
                if (held < 0) {
                    return add(code, place);
                }
                if (entry(turn, held) == code) {
                    return held;
                }
                place = place + 1 & SLOTS - 1;
            }
            return NONE;
        }

        private int add(int code, int place) {
            if (count >= MOST) {
                many = true;
                return NONE;
            }
            set(turn, count, code);
            count++;
            set(slot, place, count);
            return count - 1;
        }

        /** A state is a turn and a sex. NONE if nobody of that sex has such kin. */
        private int step(int state, int letter) {
            int done = state >> 1;
            int sex = state & 1;
            if (!Kin.fits(sex, letter)) {
                return NONE;
            }
            return stepTurn(done, sex, letter) * 2 + Kin.sexOf(letter);
        }

        private int stepTurn(int done, int sex, int letter) {
            switch (letter) {
                case Kin.FATHER: return entry(byFather, done);
                case Kin.MOTHER: return entry(byWife, entry(byFather, done));
                case Kin.SON:
                case Kin.DAUGHTER: return entry(byChild, sex == MAN ? done : entry(byHusband, done));
                case Kin.HUSBAND: return entry(byHusband, done);
                case Kin.WIFE: return entry(byWife, done);
                default: return done;
            }
        }

        /** The shortest kin word that means the same. NONE: the turns are many. */
        int shortest(Wheel wheel, int kin) {
            gather(wheel);
            if (many) {
                return NONE;
            }
            int sex = Kin.from(kin);
            search(sex);
            int state = sex;
            for (int i = 0; i < Kin.size(kin); i++) {
                state = step(state, Kin.letterAt(kin, i));
            }
            return wordTo(sex, state);
        }

        /** Nearest first, and letters in their order: so the first way to a state is the shortest and least. */
        private void search(int sex) {
            if (!isSex(sex) || searched[sex]) {
                return;
            }
            searched[sex] = true;
            int[] ahead = before[sex];
            Arrays.fill(ahead, NONE);
            set(ahead, sex, BEGIN);
            set(queue, 0, sex);
            int ends = 1;
            for (int i = 0; i < ends && i < STATES; i++) {
                for (int letter = 0; letter < Kin.LETTERS.length(); letter++) {
                    int state = step(queue[i], letter);
                    if (state >= 0 && state < STATES && ahead[state] == NONE) {
                        ahead[state] = queue[i] << 3 | letter;
                        set(queue, ends, state);
                        ends++;
                    }
                }
            }
        }

        /** Kin words have eight letters at most, and the shortest no more. */
        private int wordTo(int sex, int state) {
            int[] ahead = before[sex & 1];
            int letters = 0;
            int length = 0;
            int at = state;
            for (int i = 0; i < Kin.MOST; i++) {
                int way = entry(ahead, at);
                if (way < 0) {
                    break;
                }
                letters = letters << 3 | way & 7;
                length++;
                at = way >> 3;
            }
            return Kin.of(sex, length, letters);
        }

        /** How many kin words of n letters from a man on lead to the bride. NONE: the turns are many. */
        int bridesOf(Wheel wheel, int n) {
            gather(wheel);
            if (many) {
                return NONE;
            }
            Arrays.fill(ways, 0);
            set(ways, MAN, 1);
            for (int i = 0; i < n; i++) {
                Arrays.fill(nextWays, 0);
                goOn();
                System.arraycopy(nextWays, 0, ways, 0, STATES);
            }
            return entry(ways, byWife[0] * 2 + WOMAN);
        }

        private void goOn() {
            for (int state = 0; state < 2 * count && state < STATES; state++) {
                if (ways[state] == 0) {
                    continue;
                }
                for (int letter = 0; letter < Kin.LETTERS.length(); letter++) {
                    int reached = step(state, letter);
                    if (reached >= 0 && reached < STATES) {
                        nextWays[reached] += ways[state];
                    }
                }
            }
        }
    }

    /** All kinds of systems of so many classes; rows are numbers, three bits an entry, the first one highest. */
    private static final class Census {
        private static final int MOST_ORDERS = 120;
        private static final int MOST_KINDS = 64;

        private final int size;
        private final int[] orders = new int[MOST_ORDERS];
        private int orderCount;
        private final int[] keepers = new int[MOST_ORDERS];
        private int keeperCount;
        private final int[] wives = new int[MOST_KINDS];
        private final int[] children = new int[MOST_KINDS];
        private final int[] shares = new int[MOST_KINDS];
        private int kindCount;
        private final int[] lawful = new int[MOST_KINDS];
        int lawfulCount;
        int lawfulSystems;
        private final Law judgedBy = new Law();
        private boolean judged;
        private final Wheel wheel = new Wheel();

        Census(int size) {
            this.size = size;
            listOrders();
            for (int i = 0; i < orderCount && i < MOST_ORDERS; i++) {
                if (movesAll(orders[i]) && isLeastOfItsOwn(orders[i])) {
                    addKindsWith(orders[i]);
                }
            }
        }

        static int numberAt(int size, int row, int i) {
            return row >> 3 * (size - 1 - i) & 7;
        }

        private void listOrders() {
            int all = 1;
            for (int i = 2; i <= size; i++) {
                all *= i;
            }
            for (int k = 0; k < all && k < MOST_ORDERS; k++) {
                orders[k] = orderAt(k, all);
                orderCount++;
            }
        }

        /** The k-th order of all: each place parts those that are left in as many shares as it has choices. */
        private int orderAt(int k, int all) {
            int row = 0;
            int taken = 0;
            int share = all;
            int left = k;
            for (int choices = size; choices > 0; choices--) {
                share /= choices;
                int number = share > 0 ? freeNumber(taken, left / share) : 0;
                left = share > 0 ? left % share : 0;
                taken |= 1 << number;
                row = row << 3 | number;
            }
            return row;
        }

        private int freeNumber(int taken, int k) {
            int left = k;
            for (int i = 0; i < size; i++) {
                if ((taken >> i & 1) == 0) {
                    if (left == 0) {
                        return i;
                    }
                    left--;
                }
            }
            return 0;
        }

        private boolean movesAll(int row) {
            for (int i = 0; i < size; i++) {
                if (numberAt(size, row, i) == i) {
                    return false;
                }
            }
            return true;
        }

        /** The row that a turn has when each class i is called names(i). */
        private int renamed(int row, int names) {
            int code = 0;
            for (int i = 0; i < size; i++) {
                int name = numberAt(size, names, i);
                int value = numberAt(size, names, numberAt(size, row, i));
                code |= value << 3 * (size - 1 - name);
            }
            return code;
        }

        /** Gathers the new names that leave the row as it is, for only these can make its kinds' rows less. */
        private boolean isLeastOfItsOwn(int row) {
            keeperCount = 0;
            for (int i = 0; i < orderCount && i < MOST_ORDERS; i++) {
                int other = renamed(row, orders[i]);
                if (other < row) {
                    return false;
                }
                if (other == row && keeperCount < MOST_ORDERS) {
                    keepers[keeperCount] = orders[i];
                    keeperCount++;
                }
            }
            return true;
        }

        private void addKindsWith(int wifeRow) {
            for (int i = 0; i < orderCount && i < MOST_ORDERS; i++) {
                int same = namesThatKeep(orders[i]);
                wheel.put(size, wifeRow, orders[i]);
                if (same > 0 && kindCount < MOST_KINDS && wheel.isProper()) {
                    wives[kindCount] = wifeRow;
                    children[kindCount] = orders[i];
                    shares[kindCount] = orderCount / same;
                    kindCount++;
                }
            }
        }

        /** Of the keepers of the wives' row, how many keep this one, too; 0 if one makes it less. */
        private int namesThatKeep(int childRow) {
            int same = 0;
            for (int i = 0; i < keeperCount && i < MOST_ORDERS; i++) {
                int other = renamed(childRow, keepers[i]);
                if (other < childRow) {
                    return 0;
                }
                if (other == childRow) {
                    same++;
                }
            }
            return same;
        }

        /** New names change nothing of what a law says, so a kind is judged for all its systems. */
        void judge(Law law) {
            if (judged && judgedBy.sameAs(law)) {
                return;
            }
            judged = true;
            judgedBy.copyFrom(law);
            lawfulCount = 0;
            lawfulSystems = 0;
            for (int i = 0; i < kindCount && i < MOST_KINDS; i++) {
                wheel.put(size, wives[i], children[i]);
                if (law.firstBroken(wheel) == NONE && lawfulCount < MOST_KINDS) {
                    lawful[lawfulCount] = i;
                    lawfulCount++;
                    lawfulSystems += shares[i];
                }
            }
        }

        int rowEntry(int k, int i) {
            if (k < 0 || k >= lawfulCount || i < 0 || i >= 2 * size) {
                return NONE;
            }
            int found = entry(lawful, k);
            return i < size
                ? numberAt(size, entry(wives, found), i)
                : numberAt(size, entry(children, found), i - size);
        }
    }

    /** Persons, and what was told of them on which day. */
    private static final class People {
        private static final int MOST = 24;
        private static final int MOST_WEDDINGS = 24;
        private static final int MOST_TELLINGS = 60;
        private static final int LAST_DAY = 999;

        private final int[] sex = new int[MOST];
        private final int[] mother = new int[MOST];
        private final int[] father = new int[MOST];
        private final int[] parentsDay = new int[MOST];
        int count;
        private final int[] man = new int[MOST_WEDDINGS];
        private final int[] woman = new int[MOST_WEDDINGS];
        private final int[] weddingDay = new int[MOST_WEDDINGS];
        int weddings;
        private final int[] teller = new int[MOST_TELLINGS];
        private final int[] tellingKind = new int[MOST_TELLINGS];
        private final int[] tellingDay = new int[MOST_TELLINGS];
        int tellings;
        int today;
        int seenTo = NONE;

        void copyFrom(People other) {
            System.arraycopy(other.sex, 0, sex, 0, MOST);
            System.arraycopy(other.mother, 0, mother, 0, MOST);
            System.arraycopy(other.father, 0, father, 0, MOST);
            System.arraycopy(other.parentsDay, 0, parentsDay, 0, MOST);
            count = other.count;
            System.arraycopy(other.man, 0, man, 0, MOST_WEDDINGS);
            System.arraycopy(other.woman, 0, woman, 0, MOST_WEDDINGS);
            System.arraycopy(other.weddingDay, 0, weddingDay, 0, MOST_WEDDINGS);
            weddings = other.weddings;
            System.arraycopy(other.teller, 0, teller, 0, MOST_TELLINGS);
            System.arraycopy(other.tellingKind, 0, tellingKind, 0, MOST_TELLINGS);
            System.arraycopy(other.tellingDay, 0, tellingDay, 0, MOST_TELLINGS);
            tellings = other.tellings;
            today = other.today;
            seenTo = other.seenTo;
        }

        boolean has(int person) {
            return person >= 0 && person < count;
        }

        /** NONE if there is no such person, which is neither sex. */
        int sexOf(int person) {
            return has(person) ? entry(sex, person) : NONE;
        }

        private boolean isSeen(int day) {
            return seenTo == NONE || day <= seenTo;
        }

        int addPerson(int newSex) {
            if (count < 0 || count >= MOST) {
                return NONE;
            }
            sex[count] = newSex;
            mother[count] = NONE;
            father[count] = NONE;
            parentsDay[count] = NONE;
            count++;
            return count - 1;
        }

        boolean addParents(int person, int newMother, int newFather) {
            if (!has(person) || person >= MOST || parentsDay[person] != NONE) {
                return false;
            }
            if (newMother == NONE && newFather == NONE) {
                return false;
            }
            if (!canBeParent(newMother, WOMAN, person) || !canBeParent(newFather, MAN, person)) {
                return false;
            }
            mother[person] = newMother;
            father[person] = newFather;
            parentsDay[person] = today;
            return true;
        }

        private boolean canBeParent(int parent, int wanted, int person) {
            return parent == NONE || sexOf(parent) == wanted && parent < person;
        }

        int addWedding(int newMan, int newWoman) {
            if (weddings < 0 || weddings >= MOST_WEDDINGS) {
                return NONE;
            }
            if (sexOf(newMan) != MAN || sexOf(newWoman) != WOMAN || areWed(newMan, newWoman)) {
                return NONE;
            }
            man[weddings] = newMan;
            woman[weddings] = newWoman;
            weddingDay[weddings] = today;
            weddings++;
            return weddings;
        }

        private boolean areWed(int oneMan, int oneWoman) {
            for (int i = 0; i < weddings && i < MOST_WEDDINGS; i++) {
                if (man[i] == oneMan && woman[i] == oneWoman) {
                    return true;
                }
            }
            return false;
        }

        int addTelling(int person, int kind) {
            if (tellings < 0 || tellings >= MOST_TELLINGS) {
                return NONE;
            }
            if (!has(person) || kind < 0 || kind >= MOST_CLASSES) {
                return NONE;
            }
            teller[tellings] = person;
            tellingKind[tellings] = kind;
            tellingDay[tellings] = today;
            tellings++;
            return tellings - 1;
        }

        boolean moveDay(int day) {
            if (day < today || day > LAST_DAY) {
                return false;
            }
            today = day;
            return true;
        }

        boolean moveView(int day) {
            if (day < NONE || day > today) {
                return false;
            }
            seenTo = day;
            return true;
        }

        int parentSeen(int person, int wanted) {
            int day = has(person) ? entry(parentsDay, person) : NONE;
            if (day == NONE || !isSeen(day)) {
                return NONE;
            }
            return entry(wanted == WOMAN ? mother : father, person);
        }

        /** The man or the woman of a wedding, NONE if it is not seen. */
        int spouseSeen(int wedding, int wanted) {
            if (wedding < 0 || wedding >= weddings || !isSeen(entry(weddingDay, wedding))) {
                return NONE;
            }
            return entry(wanted == WOMAN ? woman : man, wedding);
        }

        boolean tellingSeen(int k) {
            return k >= 0 && k < tellings && isSeen(entry(tellingDay, k));
        }

        int tellingsSeen() {
            int seen = 0;
            for (int k = 0; k < tellings; k++) {
                if (tellingSeen(k)) {
                    seen++;
                }
            }
            return seen;
        }

        int tellingPart(int k, int what) {
            if (k < 0 || k >= tellings) {
                return NO_SUCH;
            }
            switch (what) {
                case 0: return entry(teller, k);
                case 1: return entry(tellingKind, k);
                case 2: return entry(tellingDay, k);
                default: return NO_SUCH;
            }
        }
    }

    /** What is found out of persons, by the view and the system; kept until something is told. */
    private static final class Kinship {
        private final int[] least = new int[People.MOST];
        private final int[] queue = new int[People.MOST];
        private int queued;
        /** The class that each person has, by each class of the least of its family. */
        private final int[] kindBy = new int[People.MOST * MOST_CLASSES];
        /** Of each family, how many tellings disagree, by each class of its least. */
        private final int[] against = new int[People.MOST * MOST_CLASSES];
        private final int[] fitting = new int[People.MOST];
        private final int[] agreeing = new int[People.MOST];
        private final int[] best = new int[People.MOST];
        private int count;
        int families;
        private boolean known;

        void forget() {
            known = false;
        }

        void find(People people, Wheel wheel) {
            if (known) {
                return;
            }
            known = true;
            count = people.count;
            families = 0;
            queued = 0;
            Arrays.fill(least, NONE);
            Arrays.fill(against, 0);
            for (int p = 0; p < count && p < People.MOST; p++) {
                if (least[p] == NONE) {
                    begin(p, wheel);
                    gather(people, wheel);
                }
            }
            checkParents(people, wheel);
            checkWeddings(people, wheel);
            countDisagreeing(people, wheel);
            chooseBest(wheel);
        }

        private void begin(int p, Wheel wheel) {
            families++;
            set(least, p, p);
            set(fitting, p, (1 << wheel.size) - 1);
            for (int r = 0; r < wheel.size; r++) {
                set(kindBy, p * MOST_CLASSES + r, r);
            }
            set(queue, queued, p);
            queued++;
        }

        private void gather(People people, Wheel wheel) {
            for (int i = queued - 1; i < queued && i < People.MOST; i++) {
                int p = entry(queue, i);
                join(p, people.parentSeen(p, WOMAN), Kin.MOTHER, people, wheel);
                join(p, people.parentSeen(p, MAN), Kin.FATHER, people, wheel);
                for (int c = p + 1; c < count; c++) {
                    if (people.parentSeen(c, people.sexOf(p)) == p) {
                        join(p, c, Kin.SON, people, wheel);
                    }
                }
                for (int k = 0; k < people.weddings; k++) {
                    if (people.spouseSeen(k, MAN) == p) {
                        join(p, people.spouseSeen(k, WOMAN), Kin.WIFE, people, wheel);
                    }
                    if (people.spouseSeen(k, WOMAN) == p) {
                        join(p, people.spouseSeen(k, MAN), Kin.HUSBAND, people, wheel);
                    }
                }
            }
        }

        /** Each way is one-to-one, so the class of one who is known gives that of the other. */
        private void join(int one, int other, int letter, People people, Wheel wheel) {
            if (!people.has(other) || entry(least, other) != NONE) {
                return;
            }
            set(least, other, entry(least, one));
            int sex = people.sexOf(one);
            for (int r = 0; r < wheel.size; r++) {
                set(kindBy, other * MOST_CLASSES + r, wheel.step(letter, sex, kindOf(one, r)));
            }
            set(queue, queued, other);
            queued++;
        }

        private int kindOf(int person, int r) {
            return entry(kindBy, person * MOST_CLASSES + r);
        }

        private void checkParents(People people, Wheel wheel) {
            for (int c = 0; c < count; c++) {
                check(people.parentSeen(c, WOMAN), c, Kin.SON, WOMAN, wheel);
                check(people.parentSeen(c, MAN), c, Kin.SON, MAN, wheel);
            }
        }

        private void checkWeddings(People people, Wheel wheel) {
            for (int k = 0; k < people.weddings; k++) {
                check(people.spouseSeen(k, MAN), people.spouseSeen(k, WOMAN), Kin.WIFE, MAN, wheel);
            }
        }

        private void check(int one, int other, int letter, int sex, Wheel wheel) {
            int family = entry(least, one);
            if (family == NONE) {
                return;
            }
            for (int r = 0; r < wheel.size; r++) {
                if (wheel.step(letter, sex, kindOf(one, r)) != kindOf(other, r)) {
                    set(fitting, family, entry(fitting, family) & ~(1 << r));
                }
            }
        }

        private void countDisagreeing(People people, Wheel wheel) {
            for (int k = 0; k < people.tellings; k++) {
                if (!people.tellingSeen(k)) {
                    continue;
                }
                int person = people.tellingPart(k, 0);
                int family = entry(least, person);
                for (int r = 0; r < wheel.size; r++) {
                    if (kindOf(person, r) != people.tellingPart(k, 1)) {
                        int i = family * MOST_CLASSES + r;
                        set(against, i, entry(against, i) + 1);
                    }
                }
            }
        }

        private void chooseBest(Wheel wheel) {
            for (int p = 0; p < count; p++) {
                int chosen = NONE;
                int agree = 0;
                for (int r = 0; r < wheel.size; r++) {
                    if (entry(least, p) != p || (entry(fitting, p) >> r & 1) == 0) {
                        continue;
                    }
                    int disagree = entry(against, p * MOST_CLASSES + r);
                    if (chosen == NONE || disagree < entry(against, p * MOST_CLASSES + chosen)) {
                        chosen = r;
                    }
                    if (disagree == 0) {
                        agree |= 1 << r;
                    }
                }
                set(best, p, chosen);
                set(agreeing, p, agree);
            }
        }

        int leastOf(int person) {
            return entry(least, person);
        }

        int classesOf(int person) {
            int agree = entry(agreeing, leastOf(person));
            int kinds = 0;
            for (int r = 0; r < MOST_CLASSES; r++) {
                if (agree > 0 && (agree >> r & 1) != 0) {
                    kinds |= 1 << kindOf(person, r);
                }
            }
            return kinds;
        }

        int quarrelAt(int k) {
            int left = k;
            for (int p = 0; p < count; p++) {
                if (leastOf(p) == p && entry(agreeing, p) == 0) {
                    if (left == 0) {
                        return p;
                    }
                    left--;
                }
            }
            return NONE;
        }

        private boolean allFit() {
            for (int p = 0; p < count; p++) {
                if (leastOf(p) == p && entry(best, p) == NONE) {
                    return false;
                }
            }
            return true;
        }

        private boolean isWrong(People people, int k) {
            int person = people.tellingPart(k, 0);
            int chosen = entry(best, leastOf(person));
            return people.tellingSeen(k) && kindOf(person, chosen) != people.tellingPart(k, 1);
        }

        int wrongCount(People people) {
            if (!allFit()) {
                return NONE;
            }
            int wrong = 0;
            for (int k = 0; k < people.tellings; k++) {
                if (isWrong(people, k)) {
                    wrong++;
                }
            }
            return wrong;
        }

        int wrongAt(People people, int k) {
            if (!allFit()) {
                return NONE;
            }
            int left = k;
            for (int i = 0; i < people.tellings; i++) {
                if (isWrong(people, i)) {
                    if (left == 0) {
                        return i;
                    }
                    left--;
                }
            }
            return NONE;
        }

        int mayWed(int man, int woman, Wheel wheel) {
            int his = entry(agreeing, leastOf(man));
            int hers = entry(agreeing, leastOf(woman));
            if (his <= 0 || hers <= 0) {
                return NONE;
            }
            boolean together = leastOf(man) == leastOf(woman);
            boolean some = false;
            boolean all = true;
            for (int r = 0; r < wheel.size; r++) {
                for (int s = 0; s < wheel.size; s++) {
                    if ((his >> r & 1) == 0 || (hers >> s & 1) == 0 || together && r != s) {
                        continue;
                    }
                    boolean right = wheel.wifeOf(kindOf(man, r)) == kindOf(woman, s);
                    some |= right;
                    all &= right;
                }
            }
            return all ? 2 : some ? 1 : 0;
        }
    }
}
