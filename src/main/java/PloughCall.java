import java.util.NoSuchElementException;

/** A city that names one man to command all: told, judged, played by hand and asked for counsel. */
public final class PloughCall {
    public static final int NONE = -1;

    private static final int OTHERS = -2;

    private static final int TAPE_SIGNS = 1000;
    private static final int WORD_LETTERS = 8;
    private static final int NUMBER_DIGITS = 4;
    private static final int MOST_MEN = 6;
    private static final int MOST_CONSULS = 2;
    private static final int MOST_DANGERS = 5;
    private static final int MOST_DECREES = 6;
    private static final int MOST_LINES = 40;
    private static final int MOST_TOLD = 8;
    private static final int MOST_STEPS = 16;
    private static final int MOST_MARKS = 4;
    private static final int MOST_WITHIN = 5;
    private static final int MOST_HEADINGS = 5;
    private static final int MOST_SIZE = 99;
    private static final int FIRST_TERM = 6;
    private static final int LONGEST_TERM = 12;
    private static final int LONGEST_SOON = 24;
    private static final int LONGEST_TOLD = 12;
    private static final int NEVER_SOON = 99;
    private static final int BEYOND_ALL = 1000000;

    private static final int POOR = 1;
    private static final int PROUD = 2;
    private static final int IDLE = 3;

    // Kinds of FAULTS.
    private static final int MISPLACED = 1;
    private static final int UNKNOWN = 2;
    private static final int REPEATED = 3;
    private static final int OUT_OF_RANGE = 4;
    private static final int TOO_MANY = 5;

    // Kinds of lines of the MONTHS.
    private static final int NAMING = 0;
    private static final int MASTERING = 1;
    private static final int PASSING = 2;
    private static final int DISOBEYING = 3;
    private static final int LAYING = 4;

    // Kinds of tokens.
    private static final int AT_END = 0;
    private static final int NO_TOKEN = 1;
    private static final int A_WORD = 2;
    private static final int A_NUMBER = 3;
    private static final int A_SIGN = 4;

    // What an E is made of; a NUMBER, never below 0, stands for itself.
    private static final int OP_ABLE = -1;
    private static final int OP_GREED = -2;
    private static final int OP_THIRD = -3;
    private static final int OP_FOURTH = -4;
    private static final int OP_NOT = -5;
    private static final int OP_AND = -6;
    private static final int OP_OR = -7;
    private static final int OP_LESS = -8;
    private static final int OP_SAME = -9;
    private static final int OP_PLUS = -10;
    private static final int OP_MINUS = -11;
    private static final int OP_TIMES = -12;

    private final Tape tape = new Tape();
    private final Reader reader = new Reader(tape);
    private final Counsel counsel = new Counsel();
    private final Standing now = new Standing();
    private final Standing trial = new Standing();
    private final Past past = new Past();
    private final Reports reports = new Reports();
    private final Mark[] marks = new Mark[MOST_MARKS];
    private City city = new City();
    private City spareCity = new City();
    private Script script = new Script();
    private Script spareScript = new Script();
    private int firstRefused;
    private int firstKept;

    public PloughCall() {
        for (int i = 0; i < marks.length; i++) {
            marks[i] = new Mark();
        }
    }

    public int feed(long a, long b, long c) {
        tape.addBytes(a);
        tape.addBytes(b);
        tape.addBytes(c);
        return tape.length;
    }

    public int city() {
        int fault = reader.readCity(spareCity);
        if (fault != 0) {
            return fault;
        }
        City before = city;
        city = spareCity;
        spareCity = before;
        now.begin(city);
        script.lines = 0;
        reports.told = 0;
        past.steps = 0;
        for (int i = 0; i < MOST_MARKS; i++) {
            Mark one = markAt(i);
            if (one != null) {
                one.laid = false;
            }
        }
        return 0;
    }

    public int months() {
        int fault = reader.readMonths(city, spareScript);
        if (fault != 0) {
            return fault;
        }
        Script before = script;
        script = spareScript;
        spareScript = before;
        return 0;
    }

    public int man(int man, int what) {
        if (!city.hasMan(man)) {
            return OTHERS;
        }
        switch (what) {
            case 0:
                return at(city.kinds, man);
            case 1:
                return at(city.skills, man);
            case 2:
                return at(city.wants, man);
            case 3:
                return at(now.fields, man);
            case 4:
                return at(now.liked, man);
            case 5:
                return city.isConsul(man) ? 1 : 0;
            default:
                return OTHERS;
        }
    }

    public int danger(int danger, int what) {
        if (!city.hasDanger(danger)) {
            return OTHERS;
        }
        switch (what) {
            case 0:
                return at(now.sizes, danger);
            case 1:
                return at(city.grows, danger);
            case 2:
                return at(city.sizes, danger);
            default:
                return OTHERS;
        }
    }

    public boolean may(int consul, int man) {
        return city.couldName(consul, man);
    }

    public boolean name(int consul, int man) {
        if (!now.canName(city, consul, man)) {
            return false;
        }
        past.push(now);
        now.give(city, man);
        return true;
    }

    public boolean master(int man) {
        if (!now.canMaster(city, man)) {
            return false;
        }
        past.push(now);
        now.master = man;
        return true;
    }

    public int month(int danger) {
        if (!city.hasDanger(danger)) {
            return NONE;
        }
        past.push(now);
        return now.passMonth(city, danger, NONE);
    }

    public int disobey(int danger, int other) {
        if (!now.canDisobey(city, danger, other)) {
            return NONE;
        }
        past.push(now);
        return now.passMonth(city, danger, other);
    }

    public int lay() {
        if (!now.canLay()) {
            return NONE;
        }
        past.push(now);
        return now.layDown();
    }

    public boolean undo() {
        return past.pop(now);
    }

    public int judged(int what) {
        if (what < 0 || what > 2) {
            return OTHERS;
        }
        judge();
        if (what == 0) {
            return firstRefused;
        }
        return what == 1 ? firstKept : trial.together();
    }

    public int soon(int man, int danger) {
        if (!city.hasMan(man) || !city.hasDanger(danger)) {
            return NONE;
        }
        return city.monthsToEnd(man, at(now.sizes, danger));
    }

    public int whom(int danger) {
        if (!city.hasDanger(danger)) {
            return NONE;
        }
        return counsel.soonest(city, now, danger, city.term);
    }

    public int terms(int danger) {
        if (!city.hasDanger(danger)) {
            return NONE;
        }
        int man = counsel.soonest(city, now, danger, LONGEST_TERM);
        if (man == NONE) {
            return NONE;
        }
        return Math.max(1, city.monthsToEnd(man, at(now.sizes, danger)));
    }

    public int headings(int months, int what) {
        if (!within(months, 1, MOST_HEADINGS) || !within(what, 0, months)) {
            return OTHERS;
        }
        if (now.power == NONE || city.dangers == 0) {
            return OTHERS;
        }
        counsel.head(city, now, months);
        return what == 0 ? counsel.least : at(counsel.leastRow, what - 1);
    }

    public int all(int danger) {
        if (danger != NONE && !city.hasDanger(danger)) {
            return OTHERS;
        }
        if (now.dangersLeft() > city.men) {
            return OTHERS;
        }
        counsel.share(city, now);
        return danger == NONE ? counsel.least : at(counsel.leastRow, danger);
    }

    public int waits(int size) {
        if (!within(size, 1, MOST_DANGERS * MOST_SIZE)) {
            return NONE;
        }
        for (int months = 0; months <= 99; months++) {
            if (now.togetherGrown(city, NONE, months) >= size) {
                return months;
            }
        }
        return NONE;
    }

    public int chance(int man, int danger, int odds, int months) throws NoSuchElementException {
        if (!city.hasMan(man) || !city.hasDanger(danger)) {
            throw new NoSuchElementException("no such man or danger");
        }
        if (!within(odds, 0, 10) || !within(months, 1, 12)) {
            throw new NoSuchElementException("no such odds or months");
        }
        return counsel.chanceToEnd(city, man, danger, at(now.sizes, danger), odds, months);
    }

    public int falls(int decrees) {
        return city.hasDecrees(decrees) ? city.fallen(decrees) : NONE;
    }

    public int anew(int decrees, int decree) {
        if (!city.hasDecrees(decrees) || !within(decree, 0, city.decrees - 1)) {
            return NONE;
        }
        return city.fallen(decrees) & city.neededBy(decree);
    }

    public boolean tell(int danger, int months, int size) {
        if (!city.hasDanger(danger) || !within(months, 0, LONGEST_TOLD) || !within(size, 0, MOST_SIZE)) {
            return false;
        }
        return reports.add(danger, months, size);
    }

    public int who() {
        return reports.suspects(city);
    }

    public int when(int danger) {
        if (!city.hasDanger(danger)) {
            return NONE;
        }
        return counsel.parting(city, danger, reports.suspects(city));
    }

    public int rests(int wait, int strike, int other, int what) throws NoSuchElementException {
        if (!within(wait, 0, 9) || !within(strike, 0, 9) || !within(other, 0, 9)) {
            throw new NoSuchElementException("nobody gets that");
        }
        int found = 0;
        for (int pair = 0; pair < 4; pair++) {
            if (isAtRest(wait, strike, other, pair)) {
                if (found == what) {
                    return pair;
                }
                found++;
            }
        }
        if (what != NONE) {
            throw new NoSuchElementException("no such rest");
        }
        return found;
    }

    public int ages(int seed, int months, int what) {
        if (!within(seed, 0, 9999) || !within(months, 1, 99) || !within(what, 0, 2)) {
            return NONE;
        }
        trial.copy(now);
        counsel.live(city, trial, seed, months);
        if (what == 0) {
            return counsel.ended;
        }
        return what == 1 ? counsel.monthsKept : sum(trial.fields, city.men);
    }

    public boolean mark(int mark, boolean back) {
        Mark one = markAt(mark);
        if (one == null) {
            return false;
        }
        if (!back) {
            one.hold(now, script, reports);
            return true;
        }
        if (!one.laid) {
            return false;
        }
        now.copy(one.standing);
        script.copy(one.script);
        reports.copy(one.reports);
        past.steps = 0;
        return true;
    }

    public int count(int what) {
        switch (what) {
            case 0:
                return city.men;
            case 1:
                return city.dangers;
            case 2:
                return city.decrees;
            case 3:
                return city.consuls;
            case 4:
                return now.month;
            case 5:
                return now.power;
            case 6:
                return now.master;
            case 7:
                return now.left;
            case 8:
                return now.kept ? 1 : 0;
            case 9:
                return now.together();
            case 10:
                return script.lines;
            case 11:
                return reports.told;
            case 12:
                return past.steps;
            case 13:
                return tape.length;
            case 14:
                return city.term;
            default:
                return NONE;
        }
    }

    private Mark markAt(int i) {
        return i >= 0 && i < marks.length ? marks[i] : null;
    }

    private void judge() {
        trial.begin(city);
        firstRefused = NONE;
        firstKept = NONE;
        for (int line = 0; line < script.lines; line++) {
            boolean done = script.play(city, trial, line);
            if (!done && firstRefused == NONE) {
                firstRefused = line;
            }
            if (trial.kept && firstKept == NONE) {
                firstKept = line;
            }
        }
    }

    private static boolean isAtRest(int wait, int strike, int other, int pair) {
        int first = pair >> 1;
        int second = pair & 1;
        return gets(wait, strike, other, first, second) >= gets(wait, strike, other, 1 - first, second)
            && gets(wait, strike, other, second, first) >= gets(wait, strike, other, 1 - second, first);
    }

    private static int gets(int wait, int strike, int other, int own, int others) {
        if (own == 0) {
            return others == 0 ? wait : other;
        }
        return others == 0 ? strike : 0;
    }

    private static boolean within(int number, int least, int most) {
        return number >= least && number <= most;
    }

    private static int at(int[] row, int i) {
        return i >= 0 && i < row.length ? row[i] : 0;
    }

    private static void put(int[] row, int i, int number) {
        if (i >= 0 && i < row.length) {
            row[i] = number;
        }
    }

    private static void copyRow(int[] from, int[] to) {
        for (int i = 0; i < from.length && i < to.length; i++) {
            to[i] = from[i];
        }
    }

    private static int sum(int[] row, int length) {
        int together = 0;
        for (int i = 0; i < length && i < row.length; i++) {
            together += row[i];
        }
        return together;
    }

    /** The words of the language; those that are not reserved may be NAMES, too. */
    private enum Word {
        MAN("man", true), SKILL("skill", true), FIELD("field", true), WANT("want", true),
        CONSUL("consul", true), HATES("hates", true), DANGER("danger", true), SIZE("size", true),
        GROWS("grows", true), DECREE("decree", true), ON("on", true), TERM("term", true),
        WORKS("works", true), KEEPS("keeps", true), NAME("name", true), MASTER("master", true),
        MONTH("month", true), DISOBEY("disobey", true), LAY("lay", true), PLAIN("plain", true),
        POOR("poor", true), PROUD("proud", true), IDLE("idle", true), NOT("not", true),
        AND("and", true), OR("or", true), ABLE("able", false), GREED("greed", false),
        LARGE("large", false), PASSED("passed", false), LIKED("liked", false), LEFT("left", false);

        private static final Word[] WORDS = Word.values();

        private final long letters;
        private final boolean reserved;

        Word(String text, boolean reserved) {
            this.letters = packed(text);
            this.reserved = reserved;
        }

        private static long packed(String text) {
            long letters = 0;
            for (int i = 0; i < text.length(); i++) {
                letters = withLetter(letters, text.charAt(i));
            }
            return letters;
        }

        // Eight letters of five bits each fit a long, so that words are compared as numbers.
        static long withLetter(long letters, int letter) {
            return letters * 32 + (letter - 'a' + 1);
        }

        static Word spelt(long letters) {
            for (int i = 0; i < WORDS.length; i++) {
                if (WORDS[i].letters == letters) {
                    return WORDS[i];
                }
            }
            return null;
        }
    }

    /** The TAPE, and the token of it that is looked at. */
    private static final class Tape {
        private final int[] signs = new int[TAPE_SIGNS];
        private int length;
        private int place;
        private int behind;
        private int kind;
        private int value;
        private long letters;
        private Word word;

        void addBytes(long bytes) {
            for (int shift = 56; shift >= 0; shift -= 8) {
                int sign = (int) (bytes >> shift) & 255;
                if ((sign == 10 || within(sign, 32, 126)) && length < TAPE_SIGNS) {
                    put(signs, length, sign);
                    length++;
                }
            }
        }

        void open() {
            behind = 0;
            advance();
        }

        void empty() {
            length = 0;
        }

        void advance() {
            place = behind;
            while (place < length && (at(signs, place) == 10 || at(signs, place) == 32)) {
                place++;
            }
            word = null;
            letters = 0;
            value = 0;
            int sign = place < length ? at(signs, place) : 0;
            if (place >= length) {
                kind = AT_END;
                behind = length;
            } else if (within(sign, 'a', 'z')) {
                readWord();
            } else if (within(sign, '0', '9')) {
                readNumber();
            } else {
                kind = isOwnToken(sign) ? A_SIGN : NO_TOKEN;
                value = sign;
                behind = place + 1;
            }
        }

        private void readWord() {
            int end = place;
            while (end < length && within(at(signs, end), 'a', 'z')) {
                letters = Word.withLetter(letters, at(signs, end));
                end++;
            }
            behind = end;
            kind = end - place > WORD_LETTERS ? NO_TOKEN : A_WORD;
            word = kind == A_WORD ? Word.spelt(letters) : null;
        }

        private void readNumber() {
            int end = place;
            while (end < length && within(at(signs, end), '0', '9')) {
                value = value * 10 + at(signs, end) - '0';
                end++;
            }
            behind = end;
            kind = end - place > NUMBER_DIGITS ? NO_TOKEN : A_NUMBER;
        }

        private static boolean isOwnToken(int sign) {
            switch (sign) {
                case '(':
                case ')':
                case '<':
                case '=':
                case '+':
                case '-':
                case '*':
                case ';':
                    return true;
                default:
                    return false;
            }
        }

        boolean isSign(char sign) {
            return kind == A_SIGN && value == sign;
        }

        boolean isName() {
            return kind == A_WORD && (word == null || !word.reserved);
        }
    }

    /** The E of works and of keeps, the parts of each ahead of what joins them. */
    private static final class Laws {
        // Each of at most five levels leaves at most four numbers waiting.
        private static final int STACK = 32;

        private final int[] ops = new int[TAPE_SIGNS];
        private final int[] stack = new int[STACK];
        private int size;
        private int worksFrom;
        private int worksTo;
        private int keepsFrom;
        private int keepsTo;

        void clear() {
            size = 0;
            worksFrom = 0;
            worksTo = 0;
            keepsFrom = 0;
            keepsTo = 0;
        }

        void add(int op) {
            if (size < TAPE_SIGNS) {
                put(ops, size, op);
                size++;
            }
        }

        // An E has one part at least, so that a law that was told is never empty.
        boolean isTold(boolean ofKeeps) {
            return ofKeeps ? keepsTo > keepsFrom : worksTo > worksFrom;
        }

        void close(boolean ofKeeps, int from) {
            if (ofKeeps) {
                keepsFrom = from;
                keepsTo = size;
            } else {
                worksFrom = from;
                worksTo = size;
            }
        }

        int worth(boolean ofKeeps, int able, int greed, int third, int fourth) {
            int from = ofKeeps ? keepsFrom : worksFrom;
            int to = ofKeeps ? keepsTo : worksTo;
            int waiting = 0;
            for (int i = from; i < to; i++) {
                int op = at(ops, i);
                if (op >= OP_FOURTH) {
                    put(stack, waiting, alone(op, able, greed, third, fourth));
                    waiting++;
                } else if (op == OP_NOT) {
                    put(stack, waiting - 1, at(stack, waiting - 1) == 0 ? 1 : 0);
                } else {
                    waiting--;
                    put(stack, waiting - 1, joined(op, at(stack, waiting - 1), at(stack, waiting)));
                }
            }
            return at(stack, 0);
        }

        private static int alone(int op, int able, int greed, int third, int fourth) {
            switch (op) {
                case OP_ABLE:
                    return able;
                case OP_GREED:
                    return greed;
                case OP_THIRD:
                    return third;
                case OP_FOURTH:
                    return fourth;
                default:
                    return op;
            }
        }

        private static int joined(int op, int left, int right) {
            switch (op) {
                case OP_AND:
                    return left != 0 && right != 0 ? 1 : 0;
                case OP_OR:
                    return left != 0 || right != 0 ? 1 : 0;
                case OP_LESS:
                    return left < right ? 1 : 0;
                case OP_SAME:
                    return left == right ? 1 : 0;
                case OP_PLUS:
                    return left + right;
                case OP_MINUS:
                    return left - right;
                case OP_TIMES:
                    return left * right;
                default:
                    return 0;
            }
        }
    }

    /** A CITY as it was told; nothing in it changes until another one is told. */
    private static final class City {
        private int men;
        private int consuls;
        private int dangers;
        private int decrees;
        private int term = FIRST_TERM;
        private boolean termTold;
        private final long[] manNames = new long[MOST_MEN];
        private final int[] kinds = new int[MOST_MEN];
        private final int[] skills = new int[MOST_MEN];
        private final int[] fields = new int[MOST_MEN];
        private final int[] wants = new int[MOST_MEN];
        private final int[] hated = new int[MOST_MEN];
        private final long[] dangerNames = new long[MOST_DANGERS];
        private final int[] sizes = new int[MOST_DANGERS];
        private final int[] grows = new int[MOST_DANGERS];
        private final long[] decreeNames = new long[MOST_DECREES];
        private final int[] grounds = new int[MOST_DECREES];
        private final Laws laws = new Laws();

        void clear() {
            men = 0;
            consuls = 0;
            dangers = 0;
            decrees = 0;
            term = FIRST_TERM;
            termTold = false;
            for (int i = 0; i < MOST_MEN; i++) {
                put(hated, i, 0);
            }
            laws.clear();
        }

        void addMan(long letters, int kind, int skill, int field, int want) {
            if (men < 0 || men >= manNames.length) {
                return;
            }
            manNames[men] = letters;
            put(kinds, men, kind);
            put(skills, men, skill);
            put(fields, men, field);
            put(wants, men, want);
            men++;
        }

        void addDanger(long letters, int size, int growth) {
            if (dangers < 0 || dangers >= dangerNames.length) {
                return;
            }
            dangerNames[dangers] = letters;
            put(sizes, dangers, size);
            put(grows, dangers, growth);
            dangers++;
        }

        void addDecree(long letters, int on) {
            if (decrees < 0 || decrees >= decreeNames.length) {
                return;
            }
            decreeNames[decrees] = letters;
            put(grounds, decrees, on);
            decrees++;
        }

        int manNamed(long letters) {
            return placeOf(manNames, men, letters);
        }

        int dangerNamed(long letters) {
            return placeOf(dangerNames, dangers, letters);
        }

        int decreeNamed(long letters) {
            return placeOf(decreeNames, decrees, letters);
        }

        boolean isNamed(long letters) {
            return manNamed(letters) != NONE || dangerNamed(letters) != NONE || decreeNamed(letters) != NONE;
        }

        private static int placeOf(long[] names, int length, long letters) {
            for (int i = 0; i < length && i < names.length; i++) {
                if (names[i] == letters) {
                    return i;
                }
            }
            return NONE;
        }

        boolean hasMan(int man) {
            return man >= 0 && man < men;
        }

        boolean hasDanger(int danger) {
            return danger >= 0 && danger < dangers;
        }

        boolean hasDecrees(int bits) {
            return bits >= 0 && bits < 1 << decrees;
        }

        boolean isConsul(int man) {
            return hasMan(man) && (consuls >> man & 1) == 1;
        }

        boolean doesHate(int man, int other) {
            return hasMan(other) && (at(hated, man) >> other & 1) == 1;
        }

        boolean couldName(int consul, int man) {
            return isConsul(consul) && hasMan(man) && consul != man && !doesHate(consul, man);
        }

        boolean someConsulCouldName(int man) {
            for (int consul = 0; consul < men; consul++) {
                if (couldName(consul, man)) {
                    return true;
                }
            }
            return false;
        }

        /** By how much a DANGER so large is less when the MAN turns to it. */
        int strength(int man, int large, int passed) {
            int skill = at(skills, man);
            if (!laws.isTold(false)) {
                return at(kinds, man) == IDLE && passed == 0 ? 0 : skill;
            }
            int worth = laws.worth(false, skill, at(wants, man), large, passed);
            return Math.max(0, Math.min(99, worth));
        }

        boolean wouldKeep(int man, int liked, int left) {
            if (!laws.isTold(true)) {
                return 9 < at(wants, man) + liked;
            }
            return laws.worth(true, at(skills, man), at(wants, man), liked, left) != 0;
        }

        int likedForEnding(int man) {
            return at(kinds, man) == PROUD ? 5 : 3;
        }

        int sizeBehind(int man, int size, int months) {
            int left = size;
            for (int passed = 0; passed < months && left > 0; passed++) {
                left = Math.max(0, left - strength(man, left, passed));
            }
            return left;
        }

        int monthsToEnd(int man, int size) {
            int left = size;
            for (int passed = 0; passed <= LONGEST_SOON; passed++) {
                if (left <= 0) {
                    return passed;
                }
                left -= strength(man, left, passed);
            }
            return NONE;
        }

        // A DECREE rests on ones told ahead of it alone, so that one pass upwards finds all that fall.
        int fallen(int bits) {
            int fallen = bits;
            for (int i = 0; i < decrees; i++) {
                if ((at(grounds, i) & fallen) != 0) {
                    fallen |= 1 << i;
                }
            }
            return fallen;
        }

        int neededBy(int decree) {
            int needed = 1 << decree;
            for (int i = decree; i >= 0; i--) {
                if ((needed >> i & 1) == 1) {
                    needed |= at(grounds, i);
                }
            }
            return needed;
        }
    }

    /** How it is in a month: who has the POWER, the DANGERS' sizes, the MEN's fields, how they are liked. */
    private static final class Standing {
        private int month;
        private int power = NONE;
        private int master = NONE;
        private int left;
        private boolean kept;
        private int passed;
        private final int[] sizes = new int[MOST_DANGERS];
        private final int[] fields = new int[MOST_MEN];
        private final int[] liked = new int[MOST_MEN];

        void begin(City city) {
            month = 0;
            release();
            for (int i = 0; i < MOST_DANGERS; i++) {
                put(sizes, i, i < city.dangers ? at(city.sizes, i) : 0);
            }
            for (int i = 0; i < MOST_MEN; i++) {
                put(fields, i, i < city.men ? at(city.fields, i) : 0);
                put(liked, i, 0);
            }
        }

        void copy(Standing other) {
            month = other.month;
            power = other.power;
            master = other.master;
            left = other.left;
            kept = other.kept;
            passed = other.passed;
            copyRow(other.sizes, sizes);
            copyRow(other.fields, fields);
            copyRow(other.liked, liked);
        }

        private void release() {
            power = NONE;
            master = NONE;
            left = 0;
            kept = false;
            passed = 0;
        }

        boolean canName(City city, int consul, int man) {
            return power == NONE && city.couldName(consul, man);
        }

        boolean canMaster(City city, int man) {
            return power != NONE && city.hasMan(man) && man != power && man != master && !city.isConsul(man);
        }

        boolean canDisobey(City city, int danger, int other) {
            return power != NONE && master != NONE && danger != other
                && city.hasDanger(danger) && city.hasDanger(other);
        }

        boolean canLay() {
            return power != NONE && !kept;
        }

        void give(City city, int man) {
            release();
            power = man;
            left = city.term;
        }

        int layDown() {
            int months = left;
            like(power, months);
            release();
            return months;
        }

        /** A MONTH of a DANGER; where other is not NONE the master turns to that one, disobeying. */
        int passMonth(City city, int danger, int other) {
            int ended = 0;
            if (power == NONE) {
                grow(city, NONE, NONE);
            } else {
                ended = turn(city, danger, other);
                grow(city, danger, other);
                closeMonth(city, ended);
            }
            month++;
            return ended;
        }

        private int turn(City city, int danger, int other) {
            int less = city.strength(power, at(sizes, danger), passed);
            int masterSkill = master == NONE ? 0 : at(city.skills, master);
            if (other == NONE) {
                return lessen(danger, less + masterSkill / 2);
            }
            like(master, 1);
            return lessen(danger, less) + lessen(other, masterSkill);
        }

        private int lessen(int danger, int less) {
            int before = at(sizes, danger);
            int after = Math.max(0, before - less);
            put(sizes, danger, after);
            return before > 0 && after == 0 ? 1 : 0;
        }

        private void grow(City city, int turned, int other) {
            for (int i = 0; i < city.dangers; i++) {
                if (i != turned && i != other) {
                    put(sizes, i, grown(city, i, 1));
                }
            }
        }

        private int grown(City city, int danger, int months) {
            int size = at(sizes, danger);
            return size == 0 ? 0 : Math.min(MOST_SIZE, size + months * at(city.grows, danger));
        }

        private void closeMonth(City city, int ended) {
            like(power, ended * city.likedForEnding(power));
            int unsown = at(city.kinds, power) == POOR ? 10 : 5;
            put(fields, power, Math.max(0, at(fields, power) - unsown));
            passed++;
            if (kept) {
                return;
            }
            left--;
            if (left > 0) {
                return;
            }
            if (city.wouldKeep(power, at(liked, power), together())) {
                kept = true;
                left = 0;
            } else {
                release();
            }
        }

        private void like(int man, int more) {
            put(liked, man, likedWith(man, more));
        }

        int likedWith(int man, int more) {
            return Math.min(99, at(liked, man) + more);
        }

        int together() {
            return sum(sizes, MOST_DANGERS);
        }

        int togetherGrown(City city, int without, int months) {
            int together = 0;
            for (int i = 0; i < city.dangers; i++) {
                if (i != without) {
                    together += grown(city, i, months);
                }
            }
            return together;
        }

        int dangersLeft() {
            int dangers = 0;
            for (int i = 0; i < MOST_DANGERS; i++) {
                if (at(sizes, i) > 0) {
                    dangers++;
                }
            }
            return dangers;
        }
    }

    /** The MONTHS: of each line its kind and whom or what it is of. */
    private static final class Script {
        private int lines;
        private final int[] kinds = new int[MOST_LINES];
        private final int[] firsts = new int[MOST_LINES];
        private final int[] seconds = new int[MOST_LINES];

        void add(int kind, int first, int second) {
            if (lines < MOST_LINES) {
                put(kinds, lines, kind);
                put(firsts, lines, first);
                put(seconds, lines, second);
                lines++;
            }
        }

        void copy(Script other) {
            lines = other.lines;
            copyRow(other.kinds, kinds);
            copyRow(other.firsts, firsts);
            copyRow(other.seconds, seconds);
        }

        /** Does a line where it can be; answers whether it can. */
        boolean play(City city, Standing standing, int line) {
            int first = at(firsts, line);
            int second = at(seconds, line);
            switch (at(kinds, line)) {
                case NAMING:
                    if (!standing.canName(city, first, second)) {
                        return false;
                    }
                    standing.give(city, second);
                    return true;
                case MASTERING:
                    if (!standing.canMaster(city, first)) {
                        return false;
                    }
                    standing.master = first;
                    return true;
                case DISOBEYING:
                    if (!standing.canDisobey(city, first, second)) {
                        return false;
                    }
                    standing.passMonth(city, first, second);
                    return true;
                case LAYING:
                    if (!standing.canLay()) {
                        return false;
                    }
                    standing.layDown();
                    return true;
                default:
                    standing.passMonth(city, first, NONE);
                    return true;
            }
        }
    }

    /** What is TOLD of DANGERS' sizes. */
    private static final class Reports {
        private int told;
        private final int[] dangers = new int[MOST_TOLD];
        private final int[] months = new int[MOST_TOLD];
        private final int[] sizes = new int[MOST_TOLD];

        boolean add(int danger, int behind, int size) {
            if (told >= MOST_TOLD) {
                return false;
            }
            put(dangers, told, danger);
            put(months, told, behind);
            put(sizes, told, size);
            told++;
            return true;
        }

        void copy(Reports other) {
            told = other.told;
            copyRow(other.dangers, dangers);
            copyRow(other.months, months);
            copyRow(other.sizes, sizes);
        }

        int suspects(City city) {
            int bits = 0;
            for (int man = 0; man < city.men; man++) {
                if (fits(city, man)) {
                    bits |= 1 << man;
                }
            }
            return bits;
        }

        private boolean fits(City city, int man) {
            for (int i = 0; i < told; i++) {
                int size = at(city.sizes, at(dangers, i));
                if (city.sizeBehind(man, size, at(months, i)) != at(sizes, i)) {
                    return false;
                }
            }
            return true;
        }
    }

    /** A MARK. */
    private static final class Mark {
        private boolean laid;
        private final Standing standing = new Standing();
        private final Script script = new Script();
        private final Reports reports = new Reports();

        void hold(Standing now, Script months, Reports told) {
            standing.copy(now);
            script.copy(months);
            reports.copy(told);
            laid = true;
        }
    }

    /** How it was ahead of each of the last acts by hand. */
    private static final class Past {
        private final Standing[] befores = new Standing[MOST_STEPS];
        private int steps;
        private int next;

        Past() {
            for (int i = 0; i < befores.length; i++) {
                befores[i] = new Standing();
            }
        }

        void push(Standing now) {
            Standing before = beforeAt(next);
            if (before != null) {
                before.copy(now);
                next = (next + 1) % MOST_STEPS;
                steps = Math.min(MOST_STEPS, steps + 1);
            }
        }

        boolean pop(Standing now) {
            int last = (next + MOST_STEPS - 1) % MOST_STEPS;
            Standing before = beforeAt(last);
            if (steps == 0 || before == null) {
                return false;
            }
            now.copy(before);
            next = last;
            steps--;
            return true;
        }

        private Standing beforeAt(int i) {
            return i >= 0 && i < befores.length ? befores[i] : null;
        }
    }

    /** Reads the TAPE as a CITY or as MONTHS, up to the first token that is wrong. */
    private static final class Reader {
        private final Tape tape;
        private City city;
        private Script script;
        private int fault;

        Reader(Tape tape) {
            this.tape = tape;
        }

        int readCity(City told) {
            city = told;
            told.clear();
            fault = 0;
            tape.open();
            boolean right = true;
            for (int line = 0; line < TAPE_SIGNS && right && tape.kind != AT_END; line++) {
                right = cityLine();
            }
            tape.empty();
            return fault;
        }

        int readMonths(City told, Script months) {
            city = told;
            script = months;
            months.lines = 0;
            fault = 0;
            tape.open();
            boolean right = true;
            for (int line = 0; line < TAPE_SIGNS && right && tape.kind != AT_END; line++) {
                right = monthsLine();
            }
            tape.empty();
            return fault;
        }

        private boolean wrong(int kind) {
            fault = kind + 16 * tape.place;
            return false;
        }

        private boolean cityLine() {
            Word first = tape.word;
            if (first == null) {
                return wrong(MISPLACED);
            }
            switch (first) {
                case MAN:
                    return manLine();
                case CONSUL:
                    return consulLine();
                case HATES:
                    return hatesLine();
                case DANGER:
                    return dangerLine();
                case DECREE:
                    return decreeLine();
                case TERM:
                    return termLine();
                case WORKS:
                    return lawLine(false);
                case KEEPS:
                    return lawLine(true);
                default:
                    return wrong(MISPLACED);
            }
        }

        private boolean manLine() {
            if (city.men >= MOST_MEN) {
                return wrong(TOO_MANY);
            }
            tape.advance();
            long letters = tape.letters;
            if (!freshName()) {
                return false;
            }
            int kind = kindSpelt();
            if (kind == NONE) {
                return wrong(MISPLACED);
            }
            tape.advance();
            int skill = labelled(Word.SKILL, 0, 9);
            int field = skill == NONE ? NONE : labelled(Word.FIELD, 0, 99);
            int want = field == NONE ? NONE : labelled(Word.WANT, 0, 9);
            if (want == NONE || !lineEnds()) {
                return false;
            }
            city.addMan(letters, kind, skill, field, want);
            return true;
        }

        private int kindSpelt() {
            Word word = tape.word;
            if (word == Word.PLAIN) {
                return 0;
            }
            if (word == Word.POOR) {
                return POOR;
            }
            if (word == Word.PROUD) {
                return PROUD;
            }
            return word == Word.IDLE ? IDLE : NONE;
        }

        private boolean consulLine() {
            if (Integer.bitCount(city.consuls) >= MOST_CONSULS) {
                return wrong(TOO_MANY);
            }
            tape.advance();
            int man = toldOne(true);
            if (man == NONE) {
                return false;
            }
            if (city.isConsul(man)) {
                return wrong(REPEATED);
            }
            tape.advance();
            if (!lineEnds()) {
                return false;
            }
            city.consuls |= 1 << man;
            return true;
        }

        private boolean hatesLine() {
            tape.advance();
            int man = toldOne(true);
            if (man == NONE) {
                return false;
            }
            tape.advance();
            int other = toldOne(true);
            if (other == NONE) {
                return false;
            }
            if (other == man || city.doesHate(man, other)) {
                return wrong(REPEATED);
            }
            tape.advance();
            if (!lineEnds()) {
                return false;
            }
            put(city.hated, man, at(city.hated, man) | 1 << other);
            return true;
        }

        private boolean dangerLine() {
            if (city.dangers >= MOST_DANGERS) {
                return wrong(TOO_MANY);
            }
            tape.advance();
            long letters = tape.letters;
            if (!freshName()) {
                return false;
            }
            int size = labelled(Word.SIZE, 1, MOST_SIZE);
            int growth = size == NONE ? NONE : labelled(Word.GROWS, 0, 9);
            if (growth == NONE || !lineEnds()) {
                return false;
            }
            city.addDanger(letters, size, growth);
            return true;
        }

        private boolean decreeLine() {
            if (city.decrees >= MOST_DECREES) {
                return wrong(TOO_MANY);
            }
            tape.advance();
            long letters = tape.letters;
            if (!freshName()) {
                return false;
            }
            int on = 0;
            if (tape.word == Word.ON) {
                tape.advance();
                on = groundsTold();
            }
            if (on == NONE || !lineEnds()) {
                return false;
            }
            city.addDecree(letters, on);
            return true;
        }

        // Each DECREE stands here once, so that no more can follow than there are, and one wrong one.
        private int groundsTold() {
            int bits = 0;
            for (int i = 0; i <= MOST_DECREES && (i == 0 || tape.isName()); i++) {
                if (!tape.isName()) {
                    wrong(MISPLACED);
                    return NONE;
                }
                int decree = city.decreeNamed(tape.letters);
                if (decree == NONE) {
                    wrong(UNKNOWN);
                    return NONE;
                }
                if ((bits >> decree & 1) == 1) {
                    wrong(REPEATED);
                    return NONE;
                }
                bits |= 1 << decree;
                tape.advance();
            }
            return bits;
        }

        private boolean termLine() {
            if (city.termTold) {
                return wrong(REPEATED);
            }
            int term = labelled(Word.TERM, 1, LONGEST_TERM);
            if (term == NONE || !lineEnds()) {
                return false;
            }
            city.term = term;
            city.termTold = true;
            return true;
        }

        private boolean lawLine(boolean ofKeeps) {
            if (city.laws.isTold(ofKeeps)) {
                return wrong(REPEATED);
            }
            int from = city.laws.size;
            tape.advance();
            if (!expression(ofKeeps, 0) || !lineEnds()) {
                return false;
            }
            city.laws.close(ofKeeps, from);
            return true;
        }

        private boolean monthsLine() {
            int kind = lineSpelt();
            if (kind == NONE) {
                return wrong(MISPLACED);
            }
            if (script.lines >= MOST_LINES) {
                return wrong(TOO_MANY);
            }
            tape.advance();
            boolean ofMen = kind == NAMING || kind == MASTERING;
            boolean ofTwo = kind == NAMING || kind == DISOBEYING;
            int first = kind == LAYING ? 0 : toldOne(ofMen);
            if (first == NONE) {
                return false;
            }
            if (kind != LAYING) {
                tape.advance();
            }
            int second = ofTwo ? toldOne(ofMen) : 0;
            if (second == NONE) {
                return false;
            }
            if (ofTwo && second == first) {
                return wrong(REPEATED);
            }
            if (ofTwo) {
                tape.advance();
            }
            if (!lineEnds()) {
                return false;
            }
            script.add(kind, first, second);
            return true;
        }

        private int lineSpelt() {
            Word word = tape.word;
            if (word == Word.NAME) {
                return NAMING;
            }
            if (word == Word.MASTER) {
                return MASTERING;
            }
            if (word == Word.MONTH) {
                return PASSING;
            }
            if (word == Word.DISOBEY) {
                return DISOBEYING;
            }
            return word == Word.LAY ? LAYING : NONE;
        }

        private boolean freshName() {
            if (!tape.isName()) {
                return wrong(MISPLACED);
            }
            if (city.isNamed(tape.letters)) {
                return wrong(REPEATED);
            }
            tape.advance();
            return true;
        }

        private int toldOne(boolean ofMen) {
            if (!tape.isName()) {
                wrong(MISPLACED);
                return NONE;
            }
            int one = ofMen ? city.manNamed(tape.letters) : city.dangerNamed(tape.letters);
            if (one == NONE) {
                wrong(UNKNOWN);
            }
            return one;
        }

        /** The NUMBER behind a word, or NONE if that is not how it stands. */
        private int labelled(Word label, int least, int most) {
            if (tape.word != label) {
                wrong(MISPLACED);
                return NONE;
            }
            tape.advance();
            if (tape.kind != A_NUMBER) {
                wrong(MISPLACED);
                return NONE;
            }
            int number = tape.value;
            if (!within(number, least, most)) {
                wrong(OUT_OF_RANGE);
                return NONE;
            }
            tape.advance();
            return number;
        }

        private boolean lineEnds() {
            if (!tape.isSign(';')) {
                return wrong(MISPLACED);
            }
            tape.advance();
            return true;
        }

        private boolean expression(boolean ofKeeps, int depth) {
            boolean right = comparison(ofKeeps, depth);
            for (int i = 0; i < TAPE_SIGNS && right && (tape.word == Word.AND || tape.word == Word.OR); i++) {
                int op = tape.word == Word.AND ? OP_AND : OP_OR;
                tape.advance();
                right = comparison(ofKeeps, depth);
                city.laws.add(op);
            }
            return right;
        }

        private boolean comparison(boolean ofKeeps, int depth) {
            if (!total(ofKeeps, depth)) {
                return false;
            }
            if (!tape.isSign('<') && !tape.isSign('=')) {
                return true;
            }
            int op = tape.isSign('<') ? OP_LESS : OP_SAME;
            tape.advance();
            boolean right = total(ofKeeps, depth);
            city.laws.add(op);
            return right;
        }

        private boolean total(boolean ofKeeps, int depth) {
            boolean right = product(ofKeeps, depth);
            for (int i = 0; i < TAPE_SIGNS && right && (tape.isSign('+') || tape.isSign('-')); i++) {
                int op = tape.isSign('+') ? OP_PLUS : OP_MINUS;
                tape.advance();
                right = product(ofKeeps, depth);
                city.laws.add(op);
            }
            return right;
        }

        private boolean product(boolean ofKeeps, int depth) {
            boolean right = part(ofKeeps, depth);
            for (int i = 0; i < TAPE_SIGNS && right && tape.isSign('*'); i++) {
                tape.advance();
                right = part(ofKeeps, depth);
                city.laws.add(OP_TIMES);
            }
            return right;
        }

        private boolean part(boolean ofKeeps, int depth) {
            int fact = factSpelt(ofKeeps);
            boolean opens = tape.isSign('(');
            boolean denies = tape.word == Word.NOT;
            if (tape.kind != A_NUMBER && fact == 0 && !opens && !denies) {
                return wrong(MISPLACED);
            }
            if (depth >= MOST_WITHIN) {
                return wrong(TOO_MANY);
            }
            int number = tape.value;
            tape.advance();
            if (denies) {
                boolean right = part(ofKeeps, depth + 1);
                city.laws.add(OP_NOT);
                return right;
            }
            if (!opens) {
                city.laws.add(fact == 0 ? number : fact);
                return true;
            }
            if (!expression(ofKeeps, depth + 1)) {
                return false;
            }
            if (!tape.isSign(')')) {
                return wrong(MISPLACED);
            }
            tape.advance();
            return true;
        }

        private int factSpelt(boolean ofKeeps) {
            Word word = tape.word;
            if (word == Word.ABLE) {
                return OP_ABLE;
            }
            if (word == Word.GREED) {
                return OP_GREED;
            }
            if (word != null && word == (ofKeeps ? Word.LIKED : Word.LARGE)) {
                return OP_THIRD;
            }
            return word != null && word == (ofKeeps ? Word.LEFT : Word.PASSED) ? OP_FOURTH : 0;
        }
    }

    /** What is found by trying: whom to name, what to turn to, who is for which DANGER, odds, ages. */
    private static final class Counsel {
        private final Standing[] path = new Standing[MOST_HEADINGS + 1];
        private final int[] row = new int[MOST_DANGERS];
        private final int[] leastRow = new int[MOST_DANGERS];
        private final int[] needed = new int[MOST_DANGERS * MOST_MEN];
        private final int[] likeSizes = new int[MOST_SIZE + 1];
        private long[] ways = new long[MOST_SIZE + 1];
        private long[] nextWays = new long[MOST_SIZE + 1];
        private int least;
        private int ended;
        private int monthsKept;

        Counsel() {
            for (int i = 0; i < path.length; i++) {
                path[i] = new Standing();
            }
        }

        int soonest(City city, Standing now, int danger, int term) {
            int best = NONE;
            int fewest = 0;
            for (int man = 0; man < city.men; man++) {
                int months = city.someConsulCouldName(man) ? city.monthsToEnd(man, at(now.sizes, danger)) : NONE;
                if (months == NONE || months > term || (best != NONE && months >= fewest)) {
                    continue;
                }
                if (!wouldKeepThen(city, now, man, danger, months)) {
                    best = man;
                    fewest = months;
                }
            }
            return best;
        }

        private boolean wouldKeepThen(City city, Standing now, int man, int danger, int months) {
            int more = at(now.sizes, danger) == 0 ? 0 : city.likedForEnding(man);
            return city.wouldKeep(man, now.likedWith(man, more), now.togetherGrown(city, danger, months));
        }

        void head(City city, Standing now, int months) {
            least = BEYOND_ALL;
            Standing first = pathAt(0);
            if (first != null) {
                first.copy(now);
                headFrom(city, months, 0);
            }
        }

        private void headFrom(City city, int months, int depth) {
            Standing here = pathAt(depth);
            if (here == null) {
                return;
            }
            if (depth >= months) {
                keepIfLess(here.together());
                return;
            }
            Standing behind = pathAt(depth + 1);
            if (behind == null) {
                return;
            }
            for (int danger = 0; danger < city.dangers && least > 0; danger++) {
                behind.copy(here);
                behind.passMonth(city, danger, NONE);
                put(row, depth, danger);
                headFrom(city, months, depth + 1);
            }
        }

        private Standing pathAt(int i) {
            return i >= 0 && i < path.length ? path[i] : null;
        }

        private void keepIfLess(int together) {
            if (together < least) {
                least = together;
                copyRow(row, leastRow);
            }
        }

        void share(City city, Standing now) {
            for (int danger = 0; danger < city.dangers; danger++) {
                for (int man = 0; man < city.men; man++) {
                    int months = city.monthsToEnd(man, at(now.sizes, danger));
                    put(needed, danger * MOST_MEN + man, months == NONE ? NEVER_SOON : months);
                }
            }
            least = BEYOND_ALL;
            shareFrom(city, now, 0, 0, 0);
        }

        private void shareFrom(City city, Standing now, int danger, int taken, int months) {
            if (danger >= city.dangers) {
                keepIfLess(months);
                return;
            }
            if (at(now.sizes, danger) == 0) {
                put(row, danger, NONE);
                shareFrom(city, now, danger + 1, taken, months);
                return;
            }
            for (int man = 0; man < city.men; man++) {
                if ((taken >> man & 1) == 0) {
                    put(row, danger, man);
                    int more = at(needed, danger * MOST_MEN + man);
                    shareFrom(city, now, danger + 1, taken | 1 << man, months + more);
                }
            }
        }

        /** Counts, of the 10 to the power of months equally likely courses, those by which it comes to 0. */
        int chanceToEnd(City city, int man, int danger, int size, int odds, int months) {
            for (int i = 0; i < ways.length; i++) {
                ways[i] = 0;
            }
            if (size >= 0 && size < ways.length) {
                ways[size] = 1;
            }
            long all = 1;
            for (int passed = 0; passed < months; passed++) {
                spread(city, man, at(city.grows, danger), odds, passed);
                all *= 10;
            }
            return all > 0 && ways.length > 0 ? (int) (ways[0] * 1000000 / all) : 0;
        }

        private void spread(City city, int man, int growth, int odds, int passed) {
            for (int i = 0; i < nextWays.length; i++) {
                nextWays[i] = 0;
            }
            for (int size = 0; size < ways.length; size++) {
                long courses = ways[size];
                if (courses > 0 && size == 0) {
                    addWays(0, courses * 10);
                } else if (courses > 0) {
                    addWays(Math.max(0, size - city.strength(man, size, passed)), courses * (10 - odds));
                    addWays(Math.min(MOST_SIZE, size + growth), courses * odds);
                }
            }
            long[] before = ways;
            ways = nextWays;
            nextWays = before;
        }

        private void addWays(int size, long courses) {
            if (size >= 0 && size < nextWays.length) {
                nextWays[size] += courses;
            }
        }

        int parting(City city, int danger, int men) {
            int all = Integer.bitCount(men);
            int best = NONE;
            int fewest = all;
            for (int months = 0; months <= LONGEST_TOLD; months++) {
                int alike = mostAlike(city, at(city.sizes, danger), men, months);
                if (alike < fewest) {
                    fewest = alike;
                    best = months;
                }
            }
            return best;
        }

        private int mostAlike(City city, int size, int men, int months) {
            for (int i = 0; i < likeSizes.length; i++) {
                likeSizes[i] = 0;
            }
            int most = 0;
            for (int man = 0; man < city.men; man++) {
                if ((men >> man & 1) == 1) {
                    int behind = city.sizeBehind(man, size, months);
                    put(likeSizes, behind, at(likeSizes, behind) + 1);
                    most = Math.max(most, at(likeSizes, behind));
                }
            }
            return most;
        }

        void live(City city, Standing trial, int seed, int months) {
            long drawn = seed;
            ended = 0;
            monthsKept = 0;
            for (int i = 0; i < months; i++) {
                if (trial.power == NONE && city.men > 0) {
                    drawn = drawnNext(drawn);
                    int consul = drawnBelow(drawn, city.men);
                    drawn = drawnNext(drawn);
                    int man = drawnBelow(drawn, city.men);
                    if (trial.canName(city, consul, man)) {
                        trial.give(city, man);
                    }
                }
                if (city.dangers > 0) {
                    drawn = drawnNext(drawn);
                    ended += trial.passMonth(city, drawnBelow(drawn, city.dangers), NONE);
                }
                if (trial.kept) {
                    monthsKept++;
                }
            }
        }

        private static long drawnNext(long drawn) {
            return (drawn * 1103515245L + 12345L) % 2147483648L;
        }

        private static int drawnBelow(long drawn, int most) {
            return most <= 0 ? 0 : (int) (drawn / 65536L % most);
        }
    }
}
