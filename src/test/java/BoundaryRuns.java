import java.util.NoSuchElementException;

/**
 * A test of its own for each sentence of the document that names a boundary case: says() quotes the sentence, the
 * calls behind it fail if it is broken. In texts that are wrong a ^ (never fed) stands ahead of the wrong token.
 */
public final class BoundaryRuns {
    private static final int MIN = Integer.MIN_VALUE;
    private static final int MAX = Integer.MAX_VALUE;
    private static final long THROWN = 1L << 40;
    private static int promise = 0;
    private static String sentence = "";
    private static int sentences = 0;
    private static int checked = 0;
    private static int wrong = 0;

    // a names b; m may be b's master: half of his skill 7, cut, is 3
    private static final String PAIR = man("a", "plain", 0, 50, 0) + man("b", "plain", 4, 50, 0) + "consul a;";
    private static final String TRIO = PAIR + man("m", "plain", 7, 50, 0);
    private static final String TWO_DANGERS = danger("d", 10, 2) + danger("e", 20, 3);

    // ---------------------------------------------------------------- telling

    private static void says(int ofPromise, String words) {
        promise = ofPromise;
        sentence = words;
        sentences++;
    }

    private static void due(String call, long got, long want) {
        checked++;
        if (got != want) {
            wrong++;
            System.out.println("promise " + promise + ", '" + sentence + "': " + call + " answered " + shown(got) + ", due is " + shown(want));
        }
    }

    private static void due(String call, boolean got, boolean want) {
        due(call, got ? 1 : 0, want ? 1 : 0);
    }

    private static void due(String call, String got, String want) {
        checked++;
        if (!got.equals(want)) {
            wrong++;
            System.out.println("promise " + promise + ", '" + sentence + "': " + call + " is " + got + ", due is " + want);
        }
    }

    private static String shown(long answer) {
        return answer == THROWN ? "throws.NoSuchElementException" : "" + answer;
    }

    // ---------------------------------------------------------------- texts

    private static String man(String name, String kind, int skill, int field, int want) {
        return "man " + name + " " + kind + " skill " + skill + " field " + field + " want " + want + ";";
    }

    private static String danger(String name, int size, int grows) {
        return "danger " + name + " size " + size + " grows " + grows + ";";
    }

    /** So many plain MEN: a, b, c .. */
    private static String men(int many) {
        StringBuilder b = new StringBuilder();
        for (int i = 0; i < many; i++) {
            b.append(man("" + (char) ('a' + i), "plain", i, 10 + i, 0));
        }
        return b.toString();
    }

    private static String decrees(int many) {
        StringBuilder b = new StringBuilder();
        for (int i = 0; i < many; i++) {
            b.append("decree ").append((char) ('p' + i)).append(";");
        }
        return b.toString();
    }

    private static String dangers(int many) {
        StringBuilder b = new StringBuilder();
        for (int i = 0; i < many; i++) {
            b.append(danger("" + (char) ('v' + i), 1 + i, i));
        }
        return b.toString();
    }

    private static int feed(PloughCall x, String text) {
        int signs = 0;
        for (int from = 0; from < text.length(); from += 24) {
            long[] parts = new long[3];
            for (int i = 0; i < 24 && from + i < text.length(); i++) {
                parts[i / 8] |= (long) text.charAt(from + i) << 56 - 8 * (i % 8);
            }
            signs = x.feed(parts[0], parts[1], parts[2]);
        }
        return signs;
    }

    private static int city(PloughCall x, String text) {
        feed(x, text);
        return x.city();
    }

    private static int months(PloughCall x, String text) {
        feed(x, text);
        return x.months();
    }

    private static PloughCall of(String text) {
        PloughCall x = new PloughCall();
        due("city of " + text, city(x, text), 0);
        return x;
    }

    private static int faultOf(String text, int kind) {
        return kind + 16 * text.indexOf('^');
    }

    private static String fed(String text) {
        int at = text.indexOf('^');
        return at < 0 ? text : text.substring(0, at) + text.substring(at + 1);
    }

    // What is wrong behind the first wrong token tells nothing, unless that one is the end.
    private static final String MORE_WRONG = " ;term 6;! term 0;12345 man man";

    private static void cityWrong(int kind, String text) {
        due("city of " + text, city(new PloughCall(), fed(text)), faultOf(text, kind));
        if (!text.endsWith("^")) {
            due("city of " + text + MORE_WRONG, city(new PloughCall(), fed(text) + MORE_WRONG), faultOf(text, kind));
        }
    }

    private static void cityRight(String text) {
        of(text);
    }

    private static void monthsWrong(String town, int kind, String text) {
        due("months of " + text, months(of(town), fed(text)), faultOf(text, kind));
        if (!text.endsWith("^")) {
            due("months of " + text + MORE_WRONG, months(of(town), fed(text) + MORE_WRONG), faultOf(text, kind));
        }
    }

    private static void monthsRight(String town, String text) {
        due("months of " + text, months(of(town), text), 0);
    }

    /** All that count, man and danger tell. */
    private static String look(PloughCall x) {
        StringBuilder b = new StringBuilder();
        for (int what = 0; what < 15; what++) {
            b.append(x.count(what)).append(' ');
        }
        for (int man = 0; man < x.count(0); man++) {
            b.append("| ");
            for (int what = 0; what < 6; what++) {
                b.append(x.man(man, what)).append(' ');
            }
        }
        for (int danger = 0; danger < x.count(1); danger++) {
            b.append("/ ");
            for (int what = 0; what < 3; what++) {
                b.append(x.danger(danger, what)).append(' ');
            }
        }
        return b.toString();
    }

    private static long chance(PloughCall x, int man, int danger, int odds, int months) {
        try {
            return x.chance(man, danger, odds, months);
        } catch (NoSuchElementException e) {
            return THROWN;
        }
    }

    private static long rests(int wait, int strike, int other, int what) {
        try {
            return new PloughCall().rests(wait, strike, other, what);
        } catch (NoSuchElementException e) {
            return THROWN;
        }
    }

    /** A MONTH of the first DANGER by b, so that its size tells what the E of works is worth. */
    private static void worth(String law, int want) {
        PloughCall x = of(PAIR + danger("d", 50, 0) + "works " + law + ";");
        x.name(0, 1);
        x.month(0);
        due("works " + law, 50 - x.danger(0, 0), want);
    }

    // ---------------------------------------------------------------- promise 1, 2: a new object, feed

    private static void newObject() {
        says(1, "Nothing, term 6.");
        due("all counts", look(new PloughCall()), "0 0 0 0 0 -1 -1 0 0 0 0 0 0 0 6 ");
        PloughCall x = new PloughCall();
        due("no MAN", x.man(0, 0), -2);
        due("no DANGER", x.danger(0, 0), -2);
        due("no DECREE falls", x.falls(0), 0);
        due("no DECREE", x.falls(1), -1);
        due("no MARK", x.mark(0, true) || x.mark(1, true) || x.mark(2, true) || x.mark(3, true), false);
        due("nobody could name", x.may(0, 1) || x.name(0, 1) || x.master(0), false);
        due("no MONTH", x.month(0), -1);
        due("no DISOBEYING", x.disobey(0, 1), -1);
        due("no LAYING", x.lay(), -1);
        due("all DANGERS", x.all(-1), 0);
        due("no HEADINGS", x.headings(1, 0), -2);
        due("who", x.who(), 0);
        due("ages", x.ages(0, 1, 0) + x.ages(0, 1, 1) + x.ages(0, 1, 2), 0);
        due("MONTHS of nobody", months(x, "lay;"), 0);
        due("judged", x.judged(0), 0);
        says(1, "NONE = -1: None.");
        due("NONE", PloughCall.NONE, -1);
    }

    private static void feeding() {
        says(2, "Up to 24 signs come behind the TAPE");
        PloughCall x = new PloughCall();
        due("24 signs", x.feed(0x7e7e7e7e7e7e7e7eL, 0x7e7e7e7e7e7e7e7eL, 0x7e7e7e7e7e7e7e7eL), 24);
        due("no sign", x.feed(0, 0, 0), 24);
        due("behind it", x.feed(0x7eL, 0, 0), 25);
        says(2, "the bytes of a, b, c, of each the highest first");
        x = new PloughCall();
        x.feed(0x7465726d20310000L, 0x32L, 0x3b00000000000000L);
        due("city of term 12;", x.city(), 0);
        due("the term", x.count(14), 12);
        says(2, "others than 10 and 32 .. 126 .. are left out");
        for (int sign = 0; sign < 256; sign++) {
            long kept = sign == 10 || sign >= 32 && sign <= 126 ? 1 : 0;
            due("feed of " + sign + " in a", new PloughCall().feed((long) sign << 56, 0, 0), kept);
            due("feed of " + sign + " in c", new PloughCall().feed(0, 0, sign), kept);
        }
        x = new PloughCall();
        x.feed(0x7465007209ff6d80L, 0x1f20377f3b000000L, 0);
        due("'term 7;' with others in it", x.city(), 0);
        due("the term", x.count(14), 7);
        says(2, "what is beyond 1,000, [is] left out");
        String blanks = " ".repeat(992);
        x = new PloughCall();
        due("1,000 signs", feed(x, blanks + "term 12;"), 1000);
        due("city", x.city(), 0);
        due("the term", x.count(14), 12);
        x = new PloughCall();
        due("1,001 signs", feed(x, blanks + " term 12;"), 1000);
        due("without the last one: the end is at 1,000", x.city(), 1 + 16 * 1000);
        x = new PloughCall();
        feed(x, blanks + "term 12");
        due("999 signs", x.count(13), 999);
        due("one more of two", x.feed(0x3b78000000000000L, 0, 0), 1000);
        due("full", x.feed(0x78L, 0x78L, 0x78L), 1000);
        due("city", x.city(), 0);
        says(2, "how many there are");
        x = new PloughCall();
        due("3 signs", x.feed(0x616263L, 0, 0), 3);
        due("2 more", x.feed(0, 0x6162L, 0), 5);
        due("count(13)", x.count(13), 5);
    }

    private static void tapeTaken() {
        says(3, "what reads it takes it: it is empty then");
        PloughCall x = of("term 7;");
        due("behind a CITY", x.count(13), 0);
        due("an empty TAPE is a CITY of nothing", x.city(), 0);
        due("the term", x.count(14), 6);
        due("a FAULT", city(x, "x"), 1);
        due("behind a CITY's FAULT", x.count(13), 0);
        says(4, "what reads it takes it: it is empty then");
        due("MONTHS", months(x, "lay;"), 0);
        due("behind MONTHS", x.count(13), 0);
        due("a FAULT", months(x, "x"), 1);
        due("behind MONTHS' FAULT", x.count(13), 0);
        due("feed begins anew", x.feed(0x3bL, 0, 0), 1);
        due("place 0", x.months(), 1);
        due("an empty TAPE is MONTHS of no line", x.months(), 0);
        due("lines", x.count(10), 0);
        says(4, "[nothing of what was read ahead stands behind the end]");
        due("a longer text", months(x, "abcdefgh"), 1);
        due("a WORD at the end", months(x, "lay"), 1 + 16 * 3);
        due("a longer text", city(x, "12345678"), 1);
        due("a NUMBER at the end", city(x, "term 6"), 1 + 16 * 6);
    }

    // ---------------------------------------------------------------- promise 3: tokens

    private static void tokens() {
        says(3, "TOKENS, each as long as can be");
        cityWrong(1, "^terms 7;");
        cityWrong(1, "^mana plain skill 0 field 0 want 0;");
        cityWrong(4, "term ^71;");
        cityRight("decree mana;");
        says(3, "blanks (10, 32) between where one likes");
        cityRight("\n\n term\n\n7  \n;\n works(1)+1 ; \n");
        cityRight("works(able<1)and(greed=2)or 3;");
        cityWrong(1, "^te rm 7;");
        cityWrong(1, "term 1 ^2;");
        cityRight("man a plain skill0field0want0;");
        says(3, "WORDS (letters a .. z, 8 at most)");
        cityRight("decree abcdefgh;");
        cityRight("decree azazazaz;");
        cityRight("decree z;");
        cityWrong(1, "decree ^abcdefghi;");
        cityWrong(1, "decree ^" + "a".repeat(500) + ";");
        cityWrong(1, "decree ^`;");
        cityWrong(1, "decree ^{;");
        cityWrong(1, "decree ^A;");
        cityWrong(1, "decree a^B;");
        cityWrong(1, "decree a^_b;");
        says(3, "NUMBERS (1 to 4 digits ..)");
        cityRight("works 0;");
        cityRight("works 9999;");
        cityRight("term 0012;");
        cityWrong(1, "term ^00012;");
        cityWrong(1, "works ^10000;");
        cityWrong(1, "works ^" + "1".repeat(500) + ";");
        cityWrong(1, "works ^/;");
        cityWrong(1, "works ^:;");
        says(3, "(.. a letter may stand right behind)");
        cityRight("man a plain skill 1field 2want 3;");
        cityRight("works 1and 2;");
        cityWrong(1, "term 7^x;");
        says(3, "the signs ( ) < = + - * ;  All else .. is none");
        for (int sign = 32; sign < 127; sign++) {
            char c = (char) sign;
            boolean joins = "<=+-*".indexOf(c) >= 0 || c >= '0' && c <= '9';
            boolean behind = c == ' ' || c == ';';
            due("works 1" + c + "1;", city(new PloughCall(), "works 1" + c + "1;"), joins ? 0 : behind ? 1 + 16 * 8 : 1 + 16 * 7);
        }
        cityRight("works (1);");
        says(3, "(a longer WORD or NUMBER, too, at its first sign)");
        cityWrong(1, "  ^" + "term".repeat(3));
        cityWrong(1, "term  ^12345");
    }

    // ---------------------------------------------------------------- promise 3: the lines of a CITY

    private static void menLines() {
        says(3, "CITY: any number of ..");
        cityRight("");
        cityRight("keeps 1;" + danger("d", 1, 0) + "decree e;" + men(2) + "term 1;consul b;works 1;hates a b;consul a;decree f;" + danger("g", 1, 1) + man("c", "idle", 1, 1, 1));
        says(3, "[in whatever order]");
        for (String laws : new String[] {"keeps 0;works 3;", "works 3;keeps 0;"}) {
            PloughCall y = of("term 1;" + laws + PAIR + danger("d", 9, 0));
            due("works 3", y.soon(1, 0), 3);
            due("keeps 0", y.terms(0), 3);
        }
        says(3, "[as long as the TAPE is, again and again]");
        PloughCall x = new PloughCall();
        for (int i = 0; i < 5; i++) {
            String law = "0+".repeat(400) + i;
            due("works " + law, city(x, PAIR + danger("d", 20, 0) + "works " + law + ";"), 0);
            due("soon", x.soon(1, 0), i == 0 ? -1 : (20 + i - 1) / i);
        }
        says(3, "man: 6 at most, numbered as told");
        x = of(men(6));
        due("six MEN", x.count(0), 6);
        for (int i = 0; i < 6; i++) {
            due("skill of " + i, x.man(i, 1), i);
        }
        cityWrong(5, men(6) + "^man g");
        says(3, "KIND: plain, poor, proud, idle");
        String[] kinds = {"plain", "poor", "proud", "idle"};
        for (int i = 0; i < 4; i++) {
            due(kinds[i], of(man("a", kinds[i], 1, 1, 1)).man(0, 0), i);
        }
        for (String other : "king skill man a able not 1 ;".split(" ")) {
            cityWrong(1, "man a ^" + other + " skill 1");
        }
        says(3, "skill 0 to 9");
        due("0", of(man("a", "plain", 0, 1, 1)).man(0, 1), 0);
        due("9", of(man("a", "plain", 9, 1, 1)).man(0, 1), 9);
        cityWrong(4, "man a plain skill ^10 field");
        cityWrong(4, "man a plain skill ^9999 field");
        cityWrong(1, "man a plain skill ^-1 field");
        says(3, "field 0 to 99");
        due("0", of(man("a", "plain", 1, 0, 1)).man(0, 3), 0);
        due("99", of(man("a", "plain", 1, 99, 1)).man(0, 3), 99);
        cityWrong(4, "man a plain skill 1 field ^100 want");
        says(3, "want 0 to 9");
        due("0", of(man("a", "plain", 1, 1, 0)).man(0, 2), 0);
        due("9", of(man("a", "plain", 1, 1, 9)).man(0, 2), 9);
        cityWrong(4, "man a plain skill 1 field 1 want ^10;");
        says(3, "man NAME KIND skill N field N want N ;");
        cityWrong(1, "man^");
        cityWrong(1, "man ^; ");
        cityWrong(1, "man a^");
        cityWrong(1, "man a plain ^field 1");
        cityWrong(1, "man a plain skill ^field");
        cityWrong(1, "man a plain skill 1 ^want");
        cityWrong(1, "man a plain skill 1 field 1 ^;");
        cityWrong(1, "man a plain skill 1 field 1 want 1^");
        cityWrong(1, "man a plain skill 1 field 1 want 1 ^man b");
    }

    private static void consulsAndHaters() {
        says(3, "consul: a MAN told");
        cityRight(men(1) + "consul a;");
        cityWrong(2, "consul ^a;" + men(1));
        cityWrong(2, danger("d", 1, 1) + "consul ^d;");
        cityWrong(2, decrees(1) + "consul ^p;");
        cityWrong(1, men(1) + "consul ^consul;");
        cityWrong(1, men(1) + "consul ^1;");
        cityWrong(1, men(2) + "consul a ^b;");
        says(3, "[consul:] each once");
        cityWrong(3, men(2) + "consul a;consul ^a;");
        says(3, "[consul:] two at most");
        due("two", of(men(6) + "consul f;consul b;").count(3), 34);
        cityWrong(5, men(3) + "consul a;consul b;^consul c;");
        cityWrong(5, men(3) + "consul a;consul b;^consul a;");
        says(3, "hates: a MAN told, another one told");
        cityRight(men(2) + "hates a b;");
        cityWrong(2, men(1) + "hates ^b a;");
        cityWrong(2, men(1) + "hates a ^b;" + man("b", "plain", 1, 1, 1));
        cityWrong(2, men(1) + danger("d", 1, 1) + "hates a ^d;");
        cityWrong(2, men(1) + danger("d", 1, 1) + "hates ^d a;");
        cityWrong(3, men(2) + "hates a ^a;");
        cityWrong(1, men(2) + "hates a^;");
        cityWrong(1, men(3) + "hates a b ^c;");
        says(3, "[hates:] each so once");
        cityRight(men(3) + "hates a b;hates b a;hates a c;hates c b;");
        cityWrong(3, men(3) + "hates a b;hates b a;hates a ^b;");
    }

    private static void dangerLines() {
        says(3, "danger: 5 at most, numbered as told");
        PloughCall x = of(dangers(5));
        due("five DANGERS", x.count(1), 5);
        for (int i = 0; i < 5; i++) {
            due("size of " + i, x.danger(i, 2), 1 + i);
            due("growth of " + i, x.danger(i, 1), i);
        }
        cityWrong(5, dangers(5) + "^danger f");
        says(3, "size 1 to 99");
        due("1", of(danger("d", 1, 0)).danger(0, 0), 1);
        due("99", of(danger("d", 99, 0)).danger(0, 0), 99);
        cityWrong(4, "danger d size ^0 grows 1;");
        cityWrong(4, "danger d size ^100 grows 1;");
        says(3, "grows 0 to 9");
        due("0", of(danger("d", 1, 0)).danger(0, 1), 0);
        due("9", of(danger("d", 1, 9)).danger(0, 1), 9);
        cityWrong(4, "danger d size 1 grows ^10;");
        says(3, "danger NAME size N grows N ;");
        cityWrong(1, "danger^");
        cityWrong(1, "danger ^size 1");
        cityWrong(1, "danger d ^grows 1");
        cityWrong(1, "danger d size 1 ^;");
        cityWrong(1, "danger d size 1 grows ^;");
        cityWrong(1, "danger d size 1 grows 1 ^decree");
    }

    private static void decreeLines() {
        says(3, "decree: 6 at most, numbered as told");
        due("six", of(decrees(6)).count(2), 6);
        cityWrong(5, decrees(6) + "^decree z;");
        due("numbered", of("decree q;decree p;decree r on p;").falls(2), 6);
        says(3, "on one or more DECREES ..");
        cityWrong(1, decrees(1) + "decree z on^;");
        cityWrong(1, decrees(1) + "decree z on ^on;");
        cityWrong(1, decrees(1) + "decree z ^p;");
        cityWrong(1, decrees(1) + "decree z on p ^1;");
        cityWrong(1, decrees(1) + "decree z on p^");
        cityRight(decrees(1) + "decree z on p;");
        cityRight(decrees(5) + "decree z on t s r q p;");
        says(3, "[on DECREES] told ahead of it");
        cityWrong(2, "decree z on ^z;");
        cityWrong(2, "decree y on ^z;decree z;");
        cityWrong(2, decrees(2) + "decree z on q ^y p;");
        cityWrong(2, men(1) + "decree z on ^a;");
        cityWrong(2, danger("d", 1, 1) + "decree z on ^d;");
        says(3, "[on DECREES ..] each once");
        cityWrong(3, decrees(2) + "decree z on q p ^q;");
    }

    private static void termAndLawLines() {
        says(3, "term 1 to 12 months (6)");
        due("1", of("term 1;").count(14), 1);
        due("12", of("term 12;").count(14), 12);
        due("none told", of(men(1)).count(14), 6);
        cityWrong(4, "term ^0;");
        cityWrong(4, "term ^13;");
        cityWrong(1, "term^;");
        cityWrong(1, "term 1 ^2;");
        PloughCall x = of("term 12;");
        due("a CITY without one", city(x, men(1)), 0);
        due("6 again", x.count(14), 6);
        says(3, "term, works, keeps: once each");
        cityRight("keeps 1;term 6;works 1;");
        cityWrong(3, "term 6;^term 6;");
        cityWrong(3, "works 0;^works 0;");
        cityWrong(3, "keeps 0;^keeps 0;");
        cityWrong(3, "keeps 0;works 0;term 1;^keeps");
        cityRight("works 1;");
        x = of("works 1;keeps 1;term 1;");
        due("once in each CITY", city(x, "works 1;keeps 1;term 1;"), 0);
    }

    private static void names() {
        says(3, "A NAME is another WORD than man, skill ..");
        String reserved = "man skill field want consul hates danger size grows decree on term works keeps name master month disobey lay plain poor proud idle not and or";
        for (String word : reserved.split(" ")) {
            cityWrong(1, "decree ^" + word + ";");
            cityWrong(1, "man ^" + word + " plain");
            cityWrong(1, "danger ^" + word + " size");
        }
        for (String word : "able greed large passed liked left none mans ma o no".split(" ")) {
            cityRight("decree " + word + ";");
        }
        says(3, "no two (MEN, DANGERS, DECREES) are alike");
        String[] firsts = {man("x", "plain", 1, 1, 1), danger("x", 1, 1), "decree x;"};
        String[] seconds = {"man ^x plain", "danger ^x size", "decree ^x;"};
        for (String first : firsts) {
            for (String second : seconds) {
                cityWrong(3, first + second);
            }
        }
        cityRight(firsts[0] + man("xx", "plain", 1, 1, 1) + danger("xxx", 1, 1));
        cityRight("decree a;decree aa;decree aaaaaaaa;decree ba;decree ab;decree b;");
        cityRight("decree aaaaaaab;decree baaaaaaa;decree z;decree zz;decree zzzzzzzz;");
    }

    // ---------------------------------------------------------------- promise 3: E

    private static void expressions() {
        says(3, "E: TEST { and TEST or or TEST }, from the left");
        worth("1 or 1 and 0", 0);
        worth("0 and 0 or 1", 1);
        worth("0 and 1 or 1", 1);
        cityWrong(1, "works ^and 1;");
        cityWrong(1, "works 1 and^;");
        cityWrong(1, "works 1 or ^or 1;");
        says(3, "TEST: SUM, or SUM < SUM, or SUM = SUM");
        worth("2<3", 1);
        worth("3<3", 0);
        worth("3=3", 1);
        worth("2=3", 0);
        worth("1+1<3", 1);
        worth("3=1+2", 1);
        cityWrong(1, "works 1<2^<3;");
        cityWrong(1, "works 1=2^=3;");
        cityWrong(1, "works 1=2^<3;");
        cityWrong(1, "works 1^>2;");
        cityWrong(1, "works 1<^=2;");
        says(3, "SUM: PRODUCT { + or - PRODUCT }");
        worth("20-5-3", 12);
        worth("20-5+3", 18);
        worth("2+3*4", 14);
        worth("20-3*4", 8);
        cityWrong(1, "works ^-1;");
        cityWrong(1, "works 1+^;");
        cityWrong(1, "works 1+^-1;");
        says(3, "PRODUCT: PART { * PART }");
        worth("2*3*4", 24);
        worth("(2+3)*4", 20);
        worth("2*not 0", 2);
        cityWrong(1, "works ^*2;");
        cityWrong(1, "works 2*^;");
        says(3, "PART: a NUMBER, a fact, not PART, ( E )");
        worth("not 0*5", 5);
        worth("not 2+3", 3);
        worth("(((7)))", 7);
        cityWrong(1, "works^;");
        cityWrong(1, "works ^");
        cityWrong(1, "works (^);");
        cityWrong(1, "works (1^;");
        cityWrong(1, "works 1^);");
        cityWrong(1, "works not ^;");
        cityWrong(1, "works not ^and;");
        cityWrong(1, "works 1 ^2;");
        cityWrong(1, "works 1 ^able;");
        cityWrong(1, "works 1 ^not 2;");
        cityWrong(1, men(1) + "works ^a;");
        says(3, "no PART lies within 5 of not and ( )");
        cityRight("works ((((1))));");
        cityRight("works not not not not 1;");
        cityRight("works not(not(1));");
        cityRight("works ((((1)+(1))*(1)))+(((not 1)));");
        cityWrong(5, "works (((((^1)))));");
        cityWrong(5, "works (((((^able)))));");
        cityWrong(5, "works not not not not not ^1;");
        cityWrong(5, "works not(not(not^(1)));");
        cityWrong(5, "keeps ((((1+not ^1))));");
        String deep = "1 and 0<9-2*";
        worth(deep + "(" + deep + "(" + deep + "(" + deep + "(" + deep + "4))))", 1);
        worth("7+2*(9-2*(9-2*(9-2*(1 and 0<9-2*4))))", 7 + 2 * (9 - 2 * (9 - 2 * (9 - 2))));
        worth("0=1*(0 or 0=9-2*(0 or 0=9-2*(0 or 0=9-2*(0 or 0=9-3*3))))", 1);
        says(3, "5 .. not, or a PART, within 5 others");
        cityWrong(5, "works (((((^not");
        cityWrong(5, "works (((((^(");
        cityWrong(5, "works not not not not not ^not 1;");
        cityWrong(1, "works (((((^;");
        cityWrong(1, "works (((((^)");
        cityWrong(1, "works (((((^left");
        cityWrong(1, "works (((((^12345");
        cityRight("works ((((1))))+((((1))))+not not not not 1;");
    }

    private static void facts() {
        says(3, "Facts: able (the MAN's skill), greed (his want)");
        PloughCall x = of(man("a", "plain", 2, 9, 3) + man("b", "plain", 4, 9, 7) + "consul a;" + danger("d", 90, 0) + "works able*10+greed;");
        x.name(0, 1);
        x.month(0);
        due("47 less", x.danger(0, 0), 43);
        says(3, "of works, too, large (the DANGER's size then)");
        x = of(PAIR + danger("d", 40, 0) + "works large-30;");
        x.name(0, 1);
        x.month(0);
        due("40 - 10", x.danger(0, 0), 30);
        x.month(0);
        due("30 - 0", x.danger(0, 0), 30);
        says(3, "passed (months ahead in which he had the POWER in a row)");
        x = of(PAIR + danger("d", 99, 0) + "works passed;term 3;keeps 0;");
        x.name(0, 1);
        x.month(0);
        due("0", x.danger(0, 0), 99);
        x.month(0);
        due("1", x.danger(0, 0), 98);
        x.month(0);
        due("2", x.danger(0, 0), 96);
        x.month(0);
        x.name(0, 1);
        x.month(0);
        due("0 again behind a month without", x.danger(0, 0), 96);
        x.month(0);
        due("1", x.danger(0, 0), 95);
        due("undone", x.undo(), true);
        due("undone", x.undo(), true);
        x.month(0);
        x.month(0);
        due("1 again", x.danger(0, 0), 95);
        x = of(PAIR + danger("d", 99, 0) + "works passed;term 1;keeps 1;");
        x.name(0, 1);
        for (int i = 0; i < 5; i++) {
            x.month(0);
        }
        due("who KEEPS it goes on: 0 1 2 3 4", x.danger(0, 0), 89);
        says(3, "of keeps, too, liked .., left (all DANGERS' sizes then together)");
        // d comes to 0: liked 3; e grows to 8
        String ends = PAIR + danger("d", 4, 0) + danger("e", 5, 3) + "term 1;keeps ";
        String[] laws = {"liked=3", "left=8", "able=4", "greed=0", "liked=0", "left=5", "left=9"};
        for (int i = 0; i < laws.length; i++) {
            x = of(ends + laws[i] + ";");
            x.name(0, 1);
            x.month(0);
            due("keeps " + laws[i], x.count(8), i < 4 ? 1 : 0);
        }
        says(3, "[the facts of works are not of keeps, those of keeps not of works]");
        cityRight("works able+greed+large+passed;keeps able+greed+liked+left;");
        cityWrong(1, "works ^liked;");
        cityWrong(1, "works ^left;");
        cityWrong(1, "keeps ^large;");
        cityWrong(1, "keeps ^passed;");
    }

    private static void worths() {
        says(3, "Of not, and, or, < and = comes 1 or 0; what is not 0 is so");
        worth("not 7", 0);
        worth("not 0", 1);
        worth("not (0-1)", 0);
        worth("5 and 7", 1);
        worth("5 and 0", 0);
        worth("0 and 5", 0);
        worth("0-1 and 0-1", 1);
        worth("0 or 9", 1);
        worth("9 or 0", 1);
        worth("0 or 0", 0);
        worth("0 or 0-1", 1);
        worth("(8<9)*9", 9);
        worth("(9=9)*9", 9);
        worth("0-1<0", 1);
        worth("0<0-1", 0);
        says(3, "ints wrap");
        // 9999 to the third is 999700029999, as an int -1027349969; 46341 * 46341 is beyond the ints
        worth("9999*9999*9999<0", 1);
        worth("9999*9999*9999+1027*1000*1000+349*1000+969+7", 7);
        worth("(9*5149)*(9*5149)<0", 1);
        worth("9999*9999*21<0", 0);
        worth("9999*9999*22<0", 1);
        worth("0-9999*9999*22<0", 0);
        says(3, "Without works: able, of an idle one 0 if passed is 0");
        String[] kinds = {"plain", "poor", "proud", "idle"};
        for (int i = 0; i < 4; i++) {
            PloughCall x = of(men(1) + man("b", kinds[i], 4, 0, 0) + "consul a;" + danger("d", 50, 0));
            x.name(0, 1);
            x.month(0);
            due("the first month of a " + kinds[i] + " one", x.danger(0, 0), i == 3 ? 50 : 46);
            x.month(0);
            due("the second one", x.danger(0, 0), i == 3 ? 46 : 42);
        }
        PloughCall y = of(men(1) + man("b", "idle", 4, 0, 0) + "consul a;" + danger("d", 50, 0) + "works able;");
        y.name(0, 1);
        y.month(0);
        due("with works an idle one is as others", y.danger(0, 0), 46);
        says(3, "without keeps: 9 < greed + liked");
        // by laying down with 1 month left he is liked 1
        for (int want = 8; want < 10; want++) {
            y = of(men(1) + man("b", "plain", 0, 0, want) + "consul a;" + danger("d", 1, 0) + "term 1;");
            y.name(0, 1);
            y.month(0);
            due("9 < " + want, y.count(8), 0);
            y.name(0, 1);
            y.lay();
            y.name(0, 1);
            y.month(0);
            due("9 < " + want + " + 1", y.count(8), want == 9 ? 1 : 0);
        }
    }

    // ---------------------------------------------------------------- promises 3, 4: FAULTS, what is new

    private static void faults() {
        says(3, "the end being [a token] at the text's length");
        cityWrong(1, "term^");
        cityWrong(1, "term  \n ^");
        cityWrong(1, "term 7^");
        cityWrong(1, "works (1^");
        says(3, "of the first token from the left that is wrong ..");
        cityWrong(4, "term ^0;term 0;man man 12345 A");
        cityWrong(1, "^x;term 0;");
        cityWrong(4, "term ^13 x");
        says(3, "[a line that does not end ahead of the next one]");
        String[] lines = {men(2) + "consul a", men(2) + "hates a b", danger("d", 1, 1) + "danger e size 1 grows 1", decrees(1) + "decree z", decrees(1) + "decree z on p",
            "term 6", "works 1", "keeps 1", "man c idle skill 1 field 1 want 1"};
        for (String line : lines) {
            cityWrong(1, line + " ^" + man("y", "plain", 1, 1, 1));
            cityWrong(1, line + " ^decree y;");
        }
        says(3, "[of the first one ..] the least");
        cityWrong(1, men(6) + "^men g");
        cityWrong(2, men(1) + "hates ^z z;");
        cityWrong(1, "works (((((^)");
        says(3, "1 it is none, or can't stand there");
        cityWrong(1, "^;");
        cityWrong(1, "^7;");
        cityWrong(1, "^name a b;");
        cityWrong(1, "^lay;");
        cityWrong(1, "^skill 1;");
        cityWrong(1, "^!");
        cityWrong(1, "term 6;^;");
    }

    private static void newCity() {
        says(3, "(all stays then)");
        PloughCall x = of(TRIO + TWO_DANGERS + decrees(2) + "term 5;");
        x.name(0, 1);
        x.master(2);
        x.month(0);
        x.tell(0, 0, 10);
        x.mark(3, false);
        due("MONTHS", months(x, "name a b;lay;lay;"), 0);
        String before = look(x);
        due("a CITY whose last sign is wrong", city(x, men(3) + dangers(3) + decrees(1) + "term 2;works 9;keeps 1;;"), 1 + 16 * (men(3) + dangers(3) + decrees(1)).length() + 16 * 23);
        due("all", look(x), before);
        due("who", x.who(), 7);
        due("judged", x.judged(0), 2);
        due("the laws: 23 by 4", x.soon(1, 1), 6);
        due("the MARK", x.mark(3, true), true);
        due("MONTHS", months(x, "name a b;lay;lay;"), 0);
        says(3, "Without a FAULT a CITY is the CITY from then on: month 0, DANGERS, fields as told, nobody has the POWER, nobody is liked, no MONTHS, nothing TOLD, nothing can be undone ..");
        x.month(0);
        x.lay();
        x.name(0, 2);
        x.master(1);
        due("city", city(x, TRIO + TWO_DANGERS), 0);
        due("all", look(x), "3 2 0 1 0 -1 -1 0 0 30 0 0 0 0 6 | 0 0 0 50 0 1 | 0 4 0 50 0 0 | 0 7 0 50 0 0 / 10 2 10 / 20 3 20 ");
        due("undo", x.undo(), false);
        due("judged", x.judged(0), -1);
        due("who", x.who(), 7);
        says(3, "[Without a FAULT ..] no MARK is there");
        for (int mark = 0; mark < 4; mark++) {
            due("mark", x.mark(mark, false), true);
        }
        due("city", city(x, PAIR), 0);
        for (int mark = 0; mark < 4; mark++) {
            due("mark " + mark, x.mark(mark, true), false);
        }
        says(3, "[a CITY without hates, consuls, decrees, works, keeps has none of the one ahead]");
        x = of(PAIR + "hates a b;" + danger("d", 9, 0) + decrees(1) + "decree z on p;works 9;keeps 1;term 1;");
        due("city", city(x, PAIR + danger("d", 9, 0) + decrees(1) + "decree z;term 1;"), 0);
        due("may", x.may(0, 1), true);
        due("falls", x.falls(1), 1);
        due("soon", x.soon(1, 0), 3);
        x.name(0, 1);
        x.month(0);
        due("keeps", x.count(8), 0);
        due("city", city(x, men(2)), 0);
        due("no consul", x.count(3), 0);
        says(3, "[nor of one that had a FAULT]");
        String whole = PAIR + "hates a b;" + danger("d", 9, 0) + decrees(1) + "decree z on p;works 9;keeps 1;term 1;";
        x = new PloughCall();
        for (int i = 0; i < 3; i++) {
            due("a FAULT", city(x, whole + "!"), 1 + 16 * whole.length());
            due("city", city(x, PAIR + danger("d", 9, 0) + decrees(1) + "decree z;"), 0);
            due("the term", x.count(14), 6);
            due("may", x.may(0, 1), true);
            due("falls", x.falls(1), 1);
            due("soon", x.soon(1, 0), 3);
            due("whom", x.whom(0), 1);
            due("all of it may be told", city(x, whole), 0);
            due("the laws", x.soon(1, 0), 1);
            due("nobody who would go", x.whom(0), -1);
        }
        says(4, "[a NAME of the CITY that stands, not of one that had a FAULT]");
        due("a FAULT", city(x, man("y", "plain", 1, 1, 1) + danger("z", 1, 1) + "!"), 1 + 16 * 59);
        due("MONTHS", months(x, "master b;month d;"), 0);
        due("MONTHS", months(x, "master y;"), 2 + 16 * 7);
        due("MONTHS of nothing at all", months(new PloughCall(), "master y;"), 2 + 16 * 7);
        due("MONTHS of nothing at all", months(new PloughCall(), "month y;"), 2 + 16 * 6);
    }

    private static void newMonths() {
        String town = TRIO + TWO_DANGERS + decrees(1);
        says(4, "MONTHS: any number of ..");
        monthsRight(town, "");
        monthsRight(town, "lay;month d;disobey e d;master a;name b a;");
        says(4, "40 lines at most");
        PloughCall x = of(town);
        due("40", months(x, "lay;".repeat(40)), 0);
        due("count(10)", x.count(10), 40);
        monthsWrong(town, 5, "lay;".repeat(40) + "^lay;");
        monthsWrong(town, 5, "month d;".repeat(40) + "^month");
        monthsWrong(town, 1, "lay;".repeat(40) + "^man;");
        monthsWrong(town, 1, "lay;".repeat(40) + "^;");
        says(4, "(MEN, not the same; ..)");
        monthsRight(town, "name a b;");
        monthsWrong(town, 3, "name a ^a;");
        says(4, "(.. a MAN; a DANGER; ..)");
        monthsWrong(town, 1, "master^;");
        monthsWrong(town, 1, "month^;");
        monthsWrong(town, 1, "master a ^b;");
        monthsWrong(town, 1, "month d ^e;");
        says(4, "(.. DANGERS, not the same)");
        monthsRight(town, "disobey e d;");
        monthsWrong(town, 3, "disobey d ^d;");
        monthsWrong(town, 1, "disobey d^;");
        monthsWrong(town, 1, "name a^;");
        monthsWrong(town, 1, "name a b ^m;");
        monthsWrong(town, 1, "lay ^a;");
        monthsWrong(town, 1, "lay^");
        for (String line : new String[] {"name a b", "master m", "month d", "disobey d e", "lay"}) {
            monthsWrong(town, 1, line + " ^month d;");
            monthsWrong(town, 1, line + "^");
        }
        says(4, "2 a NAME of no MAN (behind .. name, master)");
        monthsWrong(town, 2, "name ^d a;");
        monthsWrong(town, 2, "name a ^p;");
        monthsWrong(town, 2, "name ^z z;");
        monthsWrong(town, 2, "master ^e;");
        monthsWrong(town, 1, "master ^name;");
        says(4, "2 [a NAME] of no DANGER (behind month, disobey)");
        monthsWrong(town, 2, "month ^a;");
        monthsWrong(town, 2, "disobey ^b d;");
        monthsWrong(town, 2, "disobey d ^z;");
        monthsWrong("", 2, "month ^d;");
        says(4, "1 [a line of a CITY can't stand there]");
        monthsWrong(town, 1, "^term 6;");
        monthsWrong(town, 1, "lay;^decree z;");
        says(4, "likewise [0, or its FAULT (all stays then)]");
        x = of(town);
        x.name(0, 1);
        due("MONTHS", months(x, "lay;month d;"), 0);
        String before = look(x);
        due("a FAULT", months(x, "month d;month e;month x;"), 2 + 16 * 22);
        due("all", look(x), before);
        due("the MONTHS", x.judged(0), 0);
        due("the MONTHS", x.judged(2), 35);
        says(4, "MONTHS are the MONTHS.");
        due("MONTHS", months(x, "month d;"), 0);
        due("in place of those", x.count(10), 1);
        due("judged", x.judged(0), -1);
        due("nothing is done", x.count(4), 0);
        due("nothing to undo", x.count(12), 1);
    }

    // ---------------------------------------------------------------- promises 5, 6: man, danger

    private static void asked() {
        String town = men(2) + man("c", "proud", 3, 33, 6) + "consul a;consul b;" + TWO_DANGERS;
        says(5, "-2: others");
        PloughCall x = of(town);
        for (int man : new int[] {MIN, -2, -1, 3, 4, 6, MAX}) {
            due("man(" + man + ", 0)", x.man(man, 0), -2);
        }
        for (int what : new int[] {MIN, -2, -1, 6, 7, MAX}) {
            due("man(0, " + what + ")", x.man(0, what), -2);
        }
        says(5, "3: field now, 4: liked, 5: 1 a consul");
        x.name(0, 2);
        x.month(0);
        x.lay();
        due("of c", "" + x.man(2, 0) + x.man(2, 1) + x.man(2, 2) + " " + x.man(2, 3) + " " + x.man(2, 4) + x.man(2, 5), "236 28 50");
        due("a consul", x.man(0, 5) * 10 + x.man(1, 5), 11);
        says(6, "-2: others");
        for (int danger : new int[] {MIN, -2, -1, 2, 3, 5, MAX}) {
            due("danger(" + danger + ", 0)", x.danger(danger, 0), -2);
        }
        for (int what : new int[] {MIN, -2, -1, 3, 4, MAX}) {
            due("danger(0, " + what + ")", x.danger(0, what), -2);
        }
        says(6, "0: its size, 1: by what it grows, 2: its size as told");
        due("size", x.danger(1, 0), 23);
        due("grows", x.danger(1, 1), 3);
        due("as told", x.danger(1, 2), 20);
    }

    // ---------------------------------------------------------------- promises 7, 8, 9: may, name, master

    private static void naming() {
        String town = men(4) + "consul a;consul b;hates a c;hates d a;";
        says(7, "Whether a MAN could NAME another one (were the POWER nobody's)");
        PloughCall x = of(town);
        String[] may = {"0101", "1011", "0000", "0000"};
        for (int round = 0; round < 2; round++) {
            for (int i = 0; i < 16; i++) {
                due("may(" + i / 4 + ", " + i % 4 + ")", x.may(i / 4, i % 4), may[i / 4].charAt(i % 4) == '1');
            }
            x.name(0, 1);
        }
        for (int other : new int[] {MIN, -2, -1, 4, 6, 32, MAX}) {
            due("may of " + other, x.may(other, 1) || x.may(1, other) || x.may(other, other), false);
        }
        says(8, "NAME, if nobody has the POWER");
        due("somebody has it", x.name(1, 3), false);
        due("he has it still", x.count(5), 1);
        x.lay();
        due("nobody has it", x.name(1, 3), true);
        says(8, "a consul names ..");
        x = of(town);
        due("no consul", x.name(2, 3) || x.name(3, 2), false);
        due("none named", x.count(5), -1);
        says(8, "another MAN");
        due("himself", x.name(0, 0) || x.name(1, 1), false);
        due("none named", x.count(5), -1);
        says(8, "whom he does not hate");
        due("hated", x.name(0, 2), false);
        due("by the other consul", x.name(1, 2), true);
        x = of(town);
        due("who hates him", x.name(0, 3), true);
        says(8, "he has the POWER for the term, no master of horse");
        for (int term = 1; term <= 12; term += 11) {
            x = of(TRIO + "term " + term + ";");
            x.name(0, 1);
            due("months", x.count(7), term);
            x.master(2);
            x.lay();
            x.name(0, 2);
            due("no master", x.count(6), -1);
        }
        says(8, "true; false: others, it can't be");
        x = of(town);
        for (int other : new int[] {MIN, -2, -1, 4, 6, 32, MAX}) {
            due("name of " + other, x.name(other, 1) || x.name(1, other) || x.name(other, other), false);
        }
        due("nothing to undo", x.count(12), 0);
    }

    private static void mastering() {
        says(9, "MASTER, if somebody has it");
        PloughCall x = of(TRIO + man("n", "plain", 1, 1, 1) + TWO_DANGERS + "term 2;");
        due("nobody has it", x.master(2), false);
        due("none", x.count(6), -1);
        x.name(0, 1);
        says(9, "a MAN who is not he");
        due("he", x.master(1), false);
        says(9, "and no consul");
        due("a consul", x.master(0), false);
        due("none", x.count(6), -1);
        says(9, "is his master from then on");
        due("master", x.master(2), true);
        x.month(0);
        due("behind a month", x.count(6), 2);
        says(9, "in place of who was");
        due("another one", x.master(3), true);
        due("he", x.count(6), 3);
        says(9, "false: .. he is");
        due("the same", x.master(3), false);
        due("what can be undone", x.count(12), 4);
        due("who was, again", x.master(2), true);
        says(9, "false: others");
        for (int other : new int[] {MIN, -2, -1, 4, 5, 6, MAX}) {
            due("master of " + other, x.master(other), false);
        }
        due("he is still", x.count(6), 2);
        says(9, "[with nobody's POWER there is no master]");
        x.month(0);
        due("he went", x.count(5), -1);
        due("no master", x.count(6), -1);
        due("nobody has it", x.master(2), false);
    }

    // ---------------------------------------------------------------- promises 10, 11: month, disobey

    private static void lessened() {
        says(10, "if somebody has the POWER he turns to it");
        PloughCall x = of(TRIO + TWO_DANGERS);
        due("month of nobody", x.month(0), 0);
        due("none is less", x.danger(0, 0) * 100 + x.danger(1, 0), 1223);
        x.name(0, 1);
        x.month(1);
        due("the one is less, the other one not", x.danger(0, 0) * 100 + x.danger(1, 0), 1419);
        says(10, "it is less by the E of works (0 to 99)");
        worth("0-1", 0);
        worth("0", 0);
        worth("0-9999*9999", 0);
        for (int e = 98; e <= 101; e++) {
            x = of(TRIO + danger("d", 99, 0) + "works " + e + ";");
            x.name(0, 1);
            x.month(0);
            due("99 less " + e, x.danger(0, 0), e == 98 ? 1 : 0);
        }
        x = of(TRIO + danger("d", 50, 0) + "works 0-9;");
        x.name(0, 1);
        x.master(2);
        x.month(0);
        due("by his master alone", x.danger(0, 0), 47);
        says(10, "by half of his master's skill, cut");
        for (int skill = 0; skill < 10; skill++) {
            x = of(PAIR + man("m", "plain", skill, 0, 0) + danger("d", 50, 0));
            x.name(0, 1);
            x.master(2);
            x.month(0);
            due("skill " + skill, x.danger(0, 0), 50 - 4 - skill / 2);
        }
        says(10, "(0 at least)");
        for (int size = 6; size <= 8; size++) {
            x = of(TRIO + danger("d", size, 9));
            x.name(0, 1);
            x.master(2);
            due(size + " less 7", x.month(0), size == 8 ? 0 : 1);
            due("size", x.danger(0, 0), size == 8 ? 1 : 0);
        }
    }

    private static void grown() {
        says(10, "All DANGERS that are not 0 and that nobody turned to grow by what they grow");
        PloughCall x = of(TRIO + danger("d", 4, 9) + danger("e", 20, 3) + danger("f", 30, 0));
        x.name(0, 1);
        x.month(0);
        due("what came to 0 does not grow", x.danger(0, 0), 0);
        due("grown", x.danger(1, 0), 23);
        due("by 0", x.danger(2, 0), 30);
        x.month(1);
        due("what is 0 does not grow", x.danger(0, 0), 0);
        due("turned to", x.danger(1, 0), 19);
        x.month(0);
        due("a month of what is 0: the others grow", x.danger(1, 0), 22);
        x.lay();
        x.month(1);
        due("nobody turns to it", x.danger(1, 0), 25);
        due("what is 0 does not grow", x.danger(0, 0), 0);
        x = of(TRIO + danger("d", 50, 9) + "works 0;");
        x.name(0, 1);
        x.month(0);
        due("turned to in vain", x.danger(0, 0), 50);
        says(10, "(99 at most)");
        x = of(danger("d", 98, 1) + danger("e", 90, 9) + danger("f", 91, 9) + danger("g", 99, 9) + danger("h", 89, 9));
        x.month(0);
        due("98 + 1", x.danger(0, 0), 99);
        due("90 + 9", x.danger(1, 0), 99);
        due("91 + 9", x.danger(2, 0), 99);
        due("99 + 9", x.danger(3, 0), 99);
        due("89 + 9", x.danger(4, 0), 98);
    }

    private static void monthClosed() {
        says(10, "for each DANGER that came to 0 in it he is liked 3 more, a proud one 5");
        String[] kinds = {"plain", "poor", "proud", "idle"};
        for (int i = 0; i < 4; i++) {
            PloughCall x = of(men(1) + man("b", kinds[i], 9, 40, 0) + man("m", "proud", 9, 40, 0) + "consul a;" + danger("d", 9, 0) + danger("e", 9, 0) + danger("f", 9, 0)
                + "works able;");
            x.name(0, 1);
            due("one", x.month(0), 1);
            due("liked, a " + kinds[i] + " one", x.man(1, 4), i == 2 ? 5 : 3);
            due("none: it was 0", x.month(0), 0);
            due("not liked more", x.man(1, 4), i == 2 ? 5 : 3);
            x.master(2);
            due("two", x.disobey(1, 2), 2);
            due("liked for each", x.man(1, 4), i == 2 ? 15 : 9);
            due("his master by one", x.man(2, 4), 1);
        }
        says(10, "his field is less by 5, a poor one's by 10 (0 at least)");
        int[] fields = {4, 5, 6, 9, 10, 11};
        for (int i = 0; i < 4; i++) {
            for (int field : fields) {
                PloughCall x = of(men(1) + man("b", kinds[i], 9, field, 0) + man("m", "poor", 9, 40, 0) + "consul a;" + danger("d", 9, 0) + danger("e", 9, 0));
                x.name(0, 1);
                x.master(2);
                x.month(0);
                due("field " + field + " of a " + kinds[i] + " one", x.man(1, 3), Math.max(0, field - (i == 1 ? 10 : 5)));
                due("the others' fields", x.man(0, 3) * 100 + x.man(2, 3), 1040);
                x.lay();
                x.month(0);
                due("no longer", x.man(1, 3), Math.max(0, field - (i == 1 ? 10 : 5)));
            }
        }
    }

    private static void termOver() {
        says(10, "he has a month of the term less");
        for (int term : new int[] {1, 2, 12}) {
            PloughCall x = of(TRIO + TWO_DANGERS + "term " + term + ";");
            x.name(0, 1);
            x.master(2);
            for (int i = 1; i < term; i++) {
                x.month(0);
                due("months left", x.count(7), term - i);
                due("he has it", x.count(5), 1);
            }
            x.month(0);
            due("none is left: he goes", x.count(5), -1);
            due("no master", x.count(6), -1);
            due("no months", x.count(7), 0);
            due("nobody KEEPS it", x.count(8), 0);
        }
        says(10, "if none is left he KEEPS the POWER for good, if the E of keeps is not 0, else he goes");
        String[] laws = {"0", "1", "2", "0-1", "9999*9999"};
        for (String law : laws) {
            PloughCall x = of(TRIO + TWO_DANGERS + "term 2;keeps " + law + ";");
            x.name(0, 1);
            x.master(2);
            x.month(0);
            due("not ahead of it", x.count(8), 0);
            x.month(0);
            due("keeps " + law, x.count(8), law.equals("0") ? 0 : 1);
            due("who has it", x.count(5), law.equals("0") ? -1 : 1);
            due("his master", x.count(6), law.equals("0") ? -1 : 2);
        }
        says(10, "Who KEEPS it has no term any more.");
        PloughCall x = of(TRIO + danger("d", 99, 0) + danger("e", 50, 1) + "term 1;keeps left=146;");
        x.name(0, 1);
        x.month(0);
        due("he KEEPS it: 95 + 51", x.count(8), 1);
        for (int i = 0; i < 15; i++) {
            x.month(0);
            due("no months", x.count(7), 0);
            due("for good, whatever is left", x.count(8) * 10 + x.count(5), 11);
        }
        due("his field goes on", x.man(1, 3), 0);
        due("he turns to it", x.danger(0, 0), 99 - 16 * 4);
        due("he can't lay it down", x.lay(), -1);
        due("nobody else is named", x.name(0, 2), false);
        due("a master", x.master(2), true);
        due("who disobeys", x.disobey(0, 1), 0);
        due("by 4", x.danger(0, 0), 31);
        due("51 + 15, less 7", x.danger(1, 0), 59);
        says(10, "It is the next month.");
        x = of(TRIO + TWO_DANGERS);
        x.month(0);
        due("nobody's", x.count(4), 1);
        x.name(0, 1);
        x.master(2);
        due("a NAMING is no month", x.count(4), 1);
        x.month(1);
        x.disobey(0, 1);
        due("month, disobey", x.count(4), 3);
        x.lay();
        due("LAYING is no month", x.count(4), 3);
        says(10, "how many came to 0; NONE: others");
        String before = look(x);
        for (int other : new int[] {MIN, -2, -1, 2, 3, 5, MAX}) {
            due("month of " + other, x.month(other), -1);
        }
        due("nothing is done", look(x), before);
    }

    private static void disobeying() {
        says(11, "DISOBEY, if somebody has the POWER and a master");
        PloughCall x = of(TRIO + danger("d", 40, 2) + danger("e", 20, 3) + danger("f", 30, 1));
        due("nobody has it", x.disobey(0, 1), -1);
        x.name(0, 1);
        due("no master", x.disobey(0, 1), -1);
        due("nothing is done", x.count(4) * 100 + x.count(12), 1);
        says(11, "half of his skill is not for the first one; the other one is less by all his skill");
        x.master(2);
        due("disobey", x.disobey(0, 1), 0);
        due("40 - 4", x.danger(0, 0), 36);
        due("20 - 7: it does not grow", x.danger(1, 0), 13);
        due("30 + 1", x.danger(2, 0), 31);
        says(11, "he is liked one more");
        due("his master", x.man(2, 4), 1);
        due("not he", x.man(1, 4), 0);
        says(11, "(0 at least)");
        for (int size = 6; size <= 8; size++) {
            x = of(TRIO + danger("d", 40, 2) + danger("e", size, 3));
            x.name(0, 1);
            x.master(2);
            due("came to 0", x.disobey(0, 1), size == 8 ? 0 : 1);
            due(size + " less 7", x.danger(1, 0), size == 8 ? 1 : 0);
            due("liked by who has the POWER", x.man(1, 4), size == 8 ? 0 : 3);
            due("what is 0 already", x.disobey(0, 1), size == 8 ? 1 : 0);
            due("his master each time", x.man(2, 4), 2);
        }
        says(11, "NONE: others, the same, it can't be");
        x = of(TRIO + TWO_DANGERS);
        x.name(0, 1);
        x.master(2);
        String before = look(x);
        for (int other : new int[] {MIN, -2, -1, 2, 3, 5, MAX}) {
            due("disobey of " + other, x.disobey(other, 0), -1);
            due("disobey of 0 and " + other, x.disobey(0, other), -1);
            due("disobey of both", x.disobey(other, other), -1);
        }
        due("the same", x.disobey(0, 0), -1);
        due("the same", x.disobey(1, 1), -1);
        due("nothing is done", look(x), before);
        says(11, "[it is a MONTH: the term is over by it, too]");
        x = of(TRIO + TWO_DANGERS + "term 1;keeps liked=0;");
        x.name(0, 1);
        x.master(2);
        x.disobey(0, 1);
        due("he KEEPS it", x.count(8), 1);
    }

    private static void liked() {
        // m lays it down with 12 months left: 12, 24 .. 96
        says(12, "Liked is 99 at most.");
        String town = men(1) + man("m", "proud", 9, 0, 0) + man("b", "plain", 0, 0, 0) + "consul a;" + danger("d", 9, 0) + danger("e", 99, 0) + "term 12;";
        PloughCall x = of(town);
        for (int i = 1; i <= 9; i++) {
            x.name(0, 1);
            x.lay();
            due("laid down " + i + " times", x.man(1, 4), Math.min(99, 12 * i));
        }
        x = of(town);
        for (int i = 0; i < 8; i++) {
            x.name(0, 1);
            x.lay();
        }
        x.mark(0, false);
        says(10, "Liked is 99 at most.");
        x.name(0, 1);
        due("came to 0", x.month(0), 1);
        due("96 + 5", x.man(1, 4), 99);
        says(11, "Liked is 99 at most.");
        due("back", x.mark(0, true), true);
        due("96", x.man(1, 4), 96);
        x.name(0, 2);
        x.master(1);
        for (int i = 1; i <= 4; i++) {
            x.disobey(0, 1);
            due("96 + " + i, x.man(1, 4), Math.min(99, 96 + i));
        }
    }

    // ---------------------------------------------------------------- promises 12, 13, 14: lay, undo, judged

    private static void laying() {
        says(12, "LAY, by who has the POWER ..; NONE: it can't be");
        PloughCall x = of(TRIO + TWO_DANGERS + "term 2;keeps liked=2;");
        due("nobody", x.lay(), -1);
        due("nothing to undo", x.count(12), 0);
        says(12, "he is liked more by as many months as are left, and goes");
        x.name(0, 1);
        x.master(2);
        due("the whole term", x.lay(), 2);
        due("liked", x.man(1, 4), 2);
        due("his master is not", x.man(2, 4), 0);
        due("gone, no master, no months", x.count(5) * 100 + x.count(6) * 10 + x.count(7), -110);
        due("again", x.lay(), -1);
        x.name(0, 2);
        x.month(0);
        due("the last month", x.lay(), 1);
        due("liked", x.man(2, 4), 1);
        says(12, ".. and does not KEEP it");
        x.name(0, 1);
        x.month(1);
        x.month(1);
        due("he KEEPS it", x.count(8), 1);
        due("lay", x.lay(), -1);
        due("he has it still", x.count(5) * 100 + x.man(1, 4), 102);
    }

    private static void undoing() {
        says(13, "UNDO: all of these");
        PloughCall x = of(TRIO + TWO_DANGERS + "term 2;keeps 1;");
        String[] looks = new String[7];
        looks[0] = look(x);
        x.name(0, 1);
        looks[1] = look(x);
        x.master(2);
        looks[2] = look(x);
        x.month(0);
        looks[3] = look(x);
        x.lay();
        looks[4] = look(x);
        due("five back", x.undo() && x.undo() && x.undo() && x.undo(), true);
        due("ahead of all", look(x), looks[0]);
        due("no more", x.undo(), false);
        x = of(TRIO + TWO_DANGERS + "term 2;keeps 1;");
        x.name(0, 1);
        x.master(2);
        x.month(0);
        looks[5] = look(x);
        x.disobey(1, 0);
        due("he KEEPS it", x.count(8), 1);
        due("undo", x.undo(), true);
        due("disobeying undone", look(x), looks[5]);
        due("undo", x.undo(), true);
        due("a month undone", look(x), looks[2]);
        due("undo", x.undo(), true);
        due("a master undone", look(x), looks[1]);
        x.lay();
        due("undo", x.undo(), true);
        due("laying undone", look(x), looks[1]);
        due("undo", x.undo(), true);
        due("a naming undone", look(x), looks[0]);
        says(13, "the last 16, one by one");
        for (int acts = 15; acts <= 18; acts++) {
            x = of(danger("d", 1, 1));
            for (int i = 0; i < acts; i++) {
                x.month(0);
                due("what can be undone", x.count(12), Math.min(16, i + 1));
            }
            for (int i = 1; i <= Math.min(16, acts); i++) {
                due("undo", x.undo(), true);
                due("the month", x.count(4), acts - i);
                due("the size", x.danger(0, 0), 1 + acts - i);
            }
            due("no more", x.undo(), false);
            due("the month", x.count(4), Math.max(0, acts - 16));
        }
        x = of(danger("d", 1, 1));
        for (int i = 0; i < 20; i++) {
            x.month(0);
        }
        for (int i = 0; i < 10; i++) {
            x.undo();
        }
        for (int i = 0; i < 13; i++) {
            x.month(0);
        }
        due("16 again", x.count(12), 16);
        for (int i = 0; i < 16; i++) {
            due("undo", x.undo(), true);
        }
        due("no more", x.undo(), false);
        due("month 23 - 16", x.count(4), 7);
        says(13, "false: nothing can be [undone of what was refused, told, read, marked, asked]");
        x = of(TRIO + TWO_DANGERS);
        x.name(1, 0);
        x.master(2);
        x.month(2);
        x.disobey(0, 1);
        x.lay();
        x.tell(0, 0, 10);
        months(x, "lay;");
        x.mark(0, false);
        x.ages(1, 9, 0);
        x.judged(0);
        due("nothing", x.undo(), false);
        due("told stays", x.count(11) * 10 + x.count(10), 11);
    }

    private static void judging() {
        String town = TRIO + man("n", "plain", 1, 1, 0) + "hates a n;" + TWO_DANGERS + "term 2;";
        says(14, "the MONTHS from the beginning");
        PloughCall x = of(town);
        x.name(0, 2);
        x.month(0);
        due("MONTHS", months(x, "name a b;month d;"), 0);
        due("can be", x.judged(0), -1);
        due("6 + 23", x.judged(2), 29);
        due("again", x.judged(2), 29);
        due("what is by hand stays", x.count(5) * 10 + x.count(4), 21);
        due("no MONTHS", months(x, ""), 0);
        due("as told", x.judged(2), 30);
        due("none", x.judged(0) + x.judged(1), -2);
        says(14, "a line that can't be is left out .. the first line (from 0) that can't be");
        String[] cant = {"lay;", "master m;", "disobey d e;", "name b a;", "name a n;", "month d;lay;", "name a b;name a m;", "name a b;master b;", "name a b;master a;",
            "name a b;disobey d e;", "name a b;lay;lay;", "name a b;month d;month d;lay;", "name a b;master m;lay;disobey d e;", "lay;lay;", "name a b;name a m;master b;"};
        int[] firsts = {0, 0, 0, 0, 0, 1, 1, 1, 1, 1, 2, 3, 3, 0, 1};
        int[] sums = {30, 30, 30, 30, 30, 35, 30, 30, 30, 30, 30, 2 + 26, 30, 30, 30};
        for (int i = 0; i < cant.length; i++) {
            due("MONTHS", months(x, cant[i]), 0);
            due("judged(0) of " + cant[i], x.judged(0), firsts[i]);
            due("judged(2) of " + cant[i], x.judged(2), sums[i]);
        }
        due("MONTHS", months(x, "lay;name a b;month d;"), 0);
        due("what is behind it is done", x.judged(2), 29);
        due("the 40th line", months(x, "month d;".repeat(39) + "lay;"), 0);
        due("judged(0)", x.judged(0), 39);
        due("all grown: 88 + 99", x.judged(2), 187);
        says(14, "(.. a month always can)");
        due("MONTHS", months(x, "month d;name a b;month e;month e;month e;"), 0);
        due("judged(0)", x.judged(0), -1);
        says(14, "the first one by which somebody KEEPS the POWER");
        x = of(town + "keeps 1;");
        due("MONTHS", months(x, "month d;name a b;master m;month d;disobey d e;month d;lay;"), 0);
        due("judged(1)", x.judged(1), 4);
        due("who KEEPS it can't lay it down", x.judged(0), 6);
        due("MONTHS", months(x, "name a b;month d;lay;name a b;month d;"), 0);
        due("none", x.judged(1), -1);
        due("MONTHS", months(x, "name a b;month d;month d;"), 0);
        due("judged(1)", x.judged(1), 2);
        says(14, "-2: others");
        for (int other : new int[] {MIN, -2, -1, 3, 4, MAX}) {
            due("judged of " + other, x.judged(other), -2);
        }
    }

    // ---------------------------------------------------------------- promises 15, 16, 17: soon, whom, terms

    private static void soon() {
        says(15, "in how many months (0 to 24) .. not within 24");
        PloughCall x = of(man("a", "plain", 4, 0, 0) + man("i", "idle", 4, 0, 0) + man("z", "plain", 0, 0, 0)
            + danger("d", 96, 9) + danger("e", 97, 0) + danger("f", 92, 0) + danger("g", 93, 9) + danger("h", 1, 0));
        due("24", x.soon(0, 0), 24);
        due("25", x.soon(0, 1), -1);
        due("23 by one who is idle: 24", x.soon(1, 2), 24);
        due("24 by one who is idle: 25", x.soon(1, 3), -1);
        due("1", x.soon(0, 4), 1);
        due("never", x.soon(2, 4), -1);
        says(15, "[it is 0 now: 0]");
        x = of(TRIO + danger("d", 4, 1) + danger("e", 50, 0));
        x.name(0, 1);
        x.month(0);
        due("by anybody", x.soon(0, 0) + x.soon(1, 0) + x.soon(2, 0), 0);
        says(15, "its size as it is now; passed 0, 1 ..; no master, no term");
        x = of(TRIO + danger("d", 40, 9) + "term 2;");
        x.month(0);
        due("49 by 4", x.soon(1, 0), 13);
        x.name(0, 1);
        x.master(2);
        due("without his master, beyond the term", x.soon(1, 0), 13);
        x = of(men(1) + man("b", "idle", 5, 0, 0) + "consul a;" + danger("d", 20, 0));
        x.name(0, 1);
        x.month(0);
        x.month(0);
        due("15 by 0 5 5 5", x.soon(1, 0), 4);
        says(15, "NONE: others");
        for (int other : new int[] {MIN, -2, -1, 2, 6, MAX}) {
            due("soon of " + other, x.soon(other, 0), -1);
            due("soon of 1 and " + other, x.soon(1, other), -1);
        }
        due("soon of 1 and 1", x.soon(1, 1), -1);
    }

    private static void whom() {
        String town = man("a", "plain", 9, 0, 0) + man("b", "plain", 5, 0, 0) + man("c", "plain", 5, 0, 0) + danger("d", 10, 0) + danger("e", 6, 9);
        says(16, "of MEN whom some consul could name");
        due("no consul", of(town).whom(0), -1);
        due("not the only consul", of(town + "consul a;").whom(1), 1);
        due("one consul by the other one", of(town + "consul a;consul b;").whom(1), 0);
        due("not whom he hates", of(town + "consul a;hates a b;").whom(0), 2);
        due("whom one of two hates", of(town + "consul a;consul c;hates a b;").whom(0), 0);
        due("whom both hate", of(town + "consul b;consul c;hates b a;hates c a;").whom(1), 1);
        due("who hates the consul", of(town + "consul a;hates b a;").whom(0), 1);
        says(16, "(were the POWER nobody's)");
        PloughCall x = of(town + "consul a;");
        x.name(0, 2);
        due("b, while c has it", x.whom(0), 1);
        says(16, "the one who is SOONEST within the term");
        for (int term = 1; term <= 3; term++) {
            due("term " + term, of(town + "consul a;term " + term + ";").whom(0), term < 2 ? -1 : 1);
        }
        due("the soonest", of(men(1) + man("b", "plain", 3, 0, 0) + man("c", "plain", 5, 0, 0) + "consul a;" + danger("d", 10, 0)).whom(0), 2);
        due("13 months of a term of 12", of(men(2) + "consul a;" + danger("d", 13, 0) + "term 12;").whom(0), -1);
        due("12 months of a term of 12", of(men(2) + "consul a;" + danger("d", 12, 0) + "term 12;").whom(0), 1);
        says(16, "of equal ones the first");
        due("b and c", of(town + "consul a;").whom(0), 1);
        says(16, "and would not KEEP the POWER then");
        due("nobody who would go", of(town + "consul a;keeps 1;").whom(0), -1);
        due("a later one who would go", of(man("a", "plain", 0, 0, 0) + man("b", "plain", 9, 0, 9) + man("c", "plain", 5, 0, 0) + "consul a;" + danger("d", 10, 0)).whom(0), 2);
        due("9 < 7 + 3", of(men(1) + man("b", "plain", 9, 0, 7) + "consul a;" + danger("d", 10, 0)).whom(0), -1);
        due("9 < 6 + 3 is not so", of(men(1) + man("b", "plain", 9, 0, 6) + "consul a;" + danger("d", 10, 0)).whom(0), 1);
        says(16, "with 3 (a proud one 5) more liked than now");
        String proud = men(1) + man("b", "proud", 5, 0, 0) + man("c", "plain", 5, 0, 0) + "consul a;" + danger("d", 10, 0) + "term 2;keeps liked=";
        due("3", of(proud + "3;").whom(0), 1);
        due("5", of(proud + "5;").whom(0), 2);
        x = of(proud + "7;");
        x.name(0, 1);
        x.lay();
        due("2 and 5", x.whom(0), 2);
        says(16, "(not if it is 0 now)");
        x = of(men(1) + man("b", "plain", 9, 0, 0) + man("c", "plain", 9, 0, 0) + "consul a;" + danger("d", 9, 0) + "keeps liked=3;");
        due("3 more", x.whom(0), -1);
        x.name(0, 1);
        x.month(0);
        due("0 now: b is liked 3, c 0", x.whom(0), 2);
        says(16, "the other DANGERS grown for those months");
        String grown = men(1) + man("b", "plain", 5, 0, 0) + "consul a;" + danger("d", 10, 9) + danger("e", 6, 9) + danger("f", 98, 9) + danger("g", 1, 0) + "keeps left=";
        due("24 + 99 + 1", of(grown + "124;").whom(0), -1);
        due("123", of(grown + "123;").whom(0), 1);
        due("125", of(grown + "125;").whom(0), 1);
        x = of(men(1) + man("b", "plain", 6, 0, 0) + "consul a;" + danger("d", 10, 9) + danger("e", 6, 9) + "keeps left=0;");
        x.name(0, 1);
        x.month(1);
        due("what is 0 does not grow", x.whom(0), -1);
        says(16, "NONE: others, none");
        for (int other : new int[] {MIN, -2, -1, 2, 5, MAX}) {
            due("whom of " + other, of(town + "consul a;").whom(other), -1);
        }
    }

    private static void terms() {
        says(17, "TERMS: the least term (1 to 12) by which there would be such a one");
        String one = men(2) + "consul a;";
        for (int size : new int[] {1, 2, 11, 12, 13, 99}) {
            due("size " + size, of(one + danger("d", size, 0) + "term 1;").terms(0), size <= 12 ? size : -1);
        }
        says(17, "[it is 0 now: 1 is the least term]");
        PloughCall x = of(one + danger("d", 1, 0) + "term 12;");
        x.name(0, 1);
        x.month(0);
        due("terms", x.terms(0), 1);
        due("whom", x.whom(0), 1);
        says(17, "[by one who would go]");
        due("the later one", of(man("a", "plain", 0, 0, 0) + man("b", "plain", 9, 0, 9) + man("c", "plain", 5, 0, 0) + "consul a;" + danger("d", 10, 0) + "term 1;").terms(0), 2);
        says(17, "NONE: others, none");
        due("all would KEEP it", of(one + danger("d", 1, 0) + "keeps 1;").terms(0), -1);
        due("no consul", of(men(2) + danger("d", 1, 0)).terms(0), -1);
        for (int other : new int[] {MIN, -2, -1, 1, 5, MAX}) {
            due("terms of " + other, x.terms(other), -1);
        }
    }

    // ---------------------------------------------------------------- promises 18, 19, 20: headings, all, waits

    private static void headings() {
        says(18, "HEADINGS for so many MONTHS (1 to 5)");
        PloughCall x = of(PAIR + danger("d", 40, 0) + danger("e", 3, 5) + "term 12;");
        x.name(0, 1);
        int[] least = {-2, 40, 36, 32, 28, 24, -2, -2};
        for (int months = 0; months < 8; months++) {
            due("headings(" + months + ", 0)", x.headings(months, 0), least[months]);
        }
        due("headings(MIN, 0)", x.headings(MIN, 0), -2);
        due("headings(MAX, 0)", x.headings(MAX, 0), -2);
        due("headings(-1, 0)", x.headings(-1, 0), -2);
        says(18, "1 + i: the i-th DANGER; -2: others");
        for (int months = 1; months <= 5; months++) {
            for (int what = 1; what <= months; what++) {
                due("headings(" + months + ", " + what + ")", x.headings(months, what), what == 1 ? 1 : 0);
            }
            due("beyond the last", x.headings(months, months + 1), -2);
            due("-1", x.headings(months, -1), -2);
            due("MIN", x.headings(months, MIN), -2);
            due("MAX", x.headings(months, MAX), -2);
        }
        says(18, "as if by hand");
        due("nothing is done", x.count(4) * 1000 + x.count(9), 43);
        due("nothing to undo of it", x.count(12), 1);
        // the term is over behind the second MONTH: what is not 0 grows then
        x = of(TRIO + danger("d", 9, 1) + danger("e", 6, 2) + "term 2;");
        x.name(0, 1);
        due("d 5, e 8, then d 6, e 4", x.headings(2, 0), 10);
        due("d", x.headings(2, 1), 0);
        due("e 0, d 11, then d 12", x.headings(3, 0), 12);
        due("e e d", x.headings(3, 1) * 100 + x.headings(3, 2) * 10 + x.headings(3, 3), 110);
        due("then d 14", x.headings(5, 0), 14);
        x.master(2);
        due("with his master: e 0, d 10, then d 3", x.headings(2, 0), 3);
        due("e", x.headings(2, 1), 1);
        due("d", x.headings(2, 2), 0);
        says(18, "of equal ones the first row");
        x = of(PAIR + danger("d", 9, 0) + danger("e", 9, 0) + danger("f", 9, 0) + danger("g", 9, 0) + danger("h", 9, 0) + "works 0;");
        x.name(0, 1);
        for (int what = 1; what <= 5; what++) {
            due("headings(5, " + what + ")", x.headings(5, what), 0);
        }
        x = of(PAIR + danger("d", 4, 0) + danger("e", 8, 0));
        x.name(0, 1);
        due("d e e ahead of e d e and e e d", x.headings(3, 1) * 100 + x.headings(3, 2) * 10 + x.headings(3, 3), 11);
        due("d d e e ahead of others", x.headings(4, 1) * 1000 + x.headings(4, 2) * 100 + x.headings(4, 3) * 10 + x.headings(4, 4), 11);
        x = of(PAIR + danger("d", 4, 0) + danger("e", 5, 0));
        x.name(0, 1);
        due("d e e leaves 0, d d e ahead of it 1", x.headings(3, 0), 0);
        due("d e e", x.headings(3, 1) * 100 + x.headings(3, 2) * 10 + x.headings(3, 3), 11);
        says(18, "-2: .. nobody has the POWER");
        x.lay();
        due("nobody", x.headings(1, 0), -2);
        due("nobody", x.headings(1, 1), -2);
        says(18, "-2: .. there are no DANGERS");
        x = of(PAIR);
        x.name(0, 1);
        due("headings(1, 0)", x.headings(1, 0), -2);
        due("headings(1, 1)", x.headings(1, 1), -2);
    }

    private static void sharing() {
        says(19, "one each, no MAN for two");
        // a ends each in 1, b in 9: a for both would be 2
        PloughCall x = of(man("a", "plain", 9, 0, 0) + man("b", "plain", 1, 0, 0) + danger("d", 9, 0) + danger("e", 8, 0));
        due("1 + 8", x.all(-1), 9);
        due("d", x.all(0), 0);
        due("e", x.all(1), 1);
        says(19, "(SOON; 99 for more)");
        due("24", of(man("a", "plain", 4, 0, 0) + danger("d", 96, 0)).all(-1), 24);
        due("25", of(man("a", "plain", 4, 0, 0) + danger("d", 97, 0)).all(-1), 99);
        due("the one whom it is for", of(man("a", "plain", 4, 0, 0) + danger("d", 97, 0)).all(0), 0);
        due("two of 99", of(men(2) + danger("d", 99, 0) + danger("e", 99, 0) + "works 0;").all(-1), 198);
        due("five of 99", of(men(6) + dangers(5) + "works 0;").all(-1), 495);
        due("24 and 24 rather than 99 and 1", of(man("a", "plain", 9, 0, 0) + man("b", "plain", 4, 0, 0) + danger("d", 97, 0) + danger("e", 9, 0)).all(-1), 14);
        says(19, "of equal ones the first row (of DANGERS, by numbers, MEN)");
        x = of(men(6) + dangers(5) + "works 9;");
        for (int danger = 0; danger < 5; danger++) {
            due("who for " + danger, x.all(danger), danger);
        }
        x = of(man("a", "plain", 3, 0, 0) + man("b", "plain", 3, 0, 0) + man("c", "plain", 9, 0, 0) + danger("d", 9, 0) + danger("e", 9, 0));
        due("3 + 1", x.all(-1), 4);
        due("a for d, c for e, not c for d", x.all(0) * 10 + x.all(1), 2);
        says(19, "DANGERS that are not 0 .. NONE: it is 0");
        x = of(men(1) + man("b", "plain", 9, 0, 0) + "consul a;" + danger("d", 9, 0) + danger("e", 9, 0) + danger("f", 9, 0));
        due("three for two MEN", x.all(-1), -2);
        x.name(0, 1);
        x.month(1);
        due("two for two: a never, b in 1", x.all(-1), 100);
        due("e is 0", x.all(1), -1);
        due("d", x.all(0), 0);
        due("f", x.all(2), 1);
        says(19, "danger NONE: months");
        x.month(0);
        x.month(2);
        due("all are 0", x.all(-1), 0);
        due("each", x.all(0) + x.all(1) + x.all(2), -3);
        due("no DANGERS", of(men(1)).all(-1), 0);
        says(19, "-2: others, there are too few MEN");
        for (int other : new int[] {MIN, -3, -2, 3, 5, MAX}) {
            due("all of " + other, x.all(other), -2);
        }
        x = of(men(1) + dangers(2));
        due("months", x.all(-1), -2);
        due("who", x.all(0) + x.all(1), -4);
        due("no MEN", of(dangers(1)).all(-1), -2);
    }

    private static void waiting() {
        says(20, "months (0 to 99) till all DANGERS together are so much, or more");
        PloughCall x = of(danger("d", 10, 2) + danger("e", 20, 3));
        due("less than now", x.waits(29), 0);
        due("as now", x.waits(30), 0);
        due("31", x.waits(31), 1);
        due("35", x.waits(35), 1);
        due("36", x.waits(36), 2);
        due("99 and 99, behind 45", x.waits(198), 45);
        says(20, "NONE: .. not within 99");
        due("199", x.waits(199), -1);
        due("98 months", of(danger("d", 1, 1)).waits(99), 98);
        due("by nothing", of(danger("d", 1, 0)).waits(2), -1);
        due("no DANGERS", of("").waits(1), -1);
        says(20, "so much (1 to 495); NONE: others");
        x = of(danger("d", 99, 0) + danger("e", 99, 0) + danger("f", 99, 0) + danger("g", 99, 0) + danger("h", 98, 1));
        due("1", x.waits(1), 0);
        due("494", x.waits(494), 0);
        due("495", x.waits(495), 1);
        for (int other : new int[] {MIN, -2, -1, 0, 496, 497, MAX}) {
            due("waits of " + other, x.waits(other), -1);
        }
        says(20, "if nobody has the POWER from now on");
        x = of(PAIR + danger("d", 4, 1) + danger("e", 20, 3));
        x.name(0, 1);
        due("25, while somebody has it", x.waits(28), 1);
        x.month(0);
        due("what is 0 does not grow", x.waits(26), 1);
        due("what is 0 does not grow", x.waits(100), -1);
        due("as it is now", x.waits(23), 0);
        due("nothing is done", x.count(4), 1);
    }

    // ---------------------------------------------------------------- promise 21: chance

    private static void chances() {
        String one = man("a", "plain", 5, 0, 0);
        says(21, "by odds (0 to 10)");
        PloughCall x = of(one + danger("d", 5, 3));
        for (int odds = 0; odds <= 10; odds++) {
            due("odds " + odds, chance(x, 0, 0, odds, 1), 100000 * (10 - odds));
        }
        due("-1", chance(x, 0, 0, -1, 1), THROWN);
        due("11", chance(x, 0, 0, 11, 1), THROWN);
        says(21, "within so many months (1 to 12)");
        due("0", chance(x, 0, 0, 0, 0), THROWN);
        due("13", chance(x, 0, 0, 0, 13), THROWN);
        due("12 months of 12", chance(of(man("a", "plain", 1, 0, 0) + danger("d", 12, 0)), 0, 0, 0, 12), 1000000);
        due("12 months of 13", chance(of(man("a", "plain", 1, 0, 0) + danger("d", 13, 0)), 0, 0, 0, 12), 0);
        due("11 months of 12", chance(of(man("a", "plain", 1, 0, 0) + danger("d", 12, 0)), 0, 0, 0, 11), 0);
        says(21, "nothing is done in it, the DANGER grows by what it grows");
        // 10: W W; L W W W (13), W L W W (8); 0.25 + 2 * 0.0625
        due("four months", chance(of(one + danger("d", 10, 3)), 0, 0, 5, 4), 375000);
        due("by 0", chance(of(one + danger("d", 10, 0)), 0, 0, 5, 3), 500000);
        says(21, "99 at most");
        // lost, 95 + 9 is 99: by 99 less it is 0
        due("0.5 + 0.25", chance(of(one + danger("d", 95, 9) + "works 99;"), 0, 0, 5, 2), 750000);
        due("from 99", chance(of(one + danger("d", 99, 9) + "works 99;"), 0, 0, 5, 2), 750000);
        due("from 98", chance(of(one + danger("d", 98, 1) + "works 99;"), 0, 0, 5, 2), 750000);
        says(21, "passed goes on");
        // in the first month by 0; in the second one by 1, whether the first was lost or not
        due("0.5", chance(of(one + danger("d", 1, 0) + "works passed;"), 0, 0, 5, 2), 500000);
        says(21, "[nothing more when it is 0]");
        due("0.5 + 0.25", chance(of(one + danger("d", 5, 0)), 0, 0, 5, 2), 750000);
        x = of(PAIR + danger("d", 4, 9));
        x.name(0, 1);
        x.month(0);
        due("it is 0 now", chance(x, 0, 0, 10, 12), 1000000);
        says(21, "in millionths, cut");
        x = of(one + danger("d", 1, 0));
        // 1 - 0.9 ^ 8 is 0.56953279, 1 - 0.9 ^ 12 0.717570463519, 1 - 0.7 ^ 12 0.986158712799
        due("0.56953279", chance(x, 0, 0, 9, 8), 569532);
        due("0.717570463519", chance(x, 0, 0, 9, 12), 717570);
        due("0.986158712799", chance(x, 0, 0, 7, 12), 986158);
        due("1 - 0.1 ^ 12", chance(x, 0, 0, 1, 12), 999999);
        due("1 - 0.1 ^ 6", chance(x, 0, 0, 1, 6), 999999);
        due("0.1 ^ 7", chance(of(man("a", "plain", 1, 0, 0) + danger("d", 7, 0)), 0, 0, 9, 7), 0);
        due("0.1 ^ 6", chance(of(man("a", "plain", 1, 0, 0) + danger("d", 6, 0)), 0, 0, 9, 6), 1);
        says(21, "[its size now; no master]");
        x = of(TRIO + danger("d", 8, 1));
        x.name(0, 1);
        x.master(2);
        due("4 and 4", chance(x, 1, 0, 0, 1), 0);
        x.month(0);
        due("1 now", chance(x, 1, 0, 0, 1), 1000000);
        says(21, "NoSuchElementException: others");
        for (int other : new int[] {MIN, -2, -1, 3, 6, MAX}) {
            due("man " + other, chance(x, other, 0, 1, 1), THROWN);
            due("danger " + other, chance(x, 0, other, 1, 1), THROWN);
        }
        due("danger 1", chance(x, 0, 1, 1, 1), THROWN);
        for (int other : new int[] {MIN, -1, 13, MAX}) {
            due("odds " + other, chance(x, 0, 0, other, 1), THROWN);
            due("months " + other, chance(x, 0, 0, 1, other), THROWN);
        }
    }

    // ---------------------------------------------------------------- promises 22, 23: falls, anew

    private static void decreesFalling() {
        says(22, "those that rest on one that falls fall, too");
        PloughCall x = of("decree p;decree q on p;decree r on q;decree s on r;decree t on s;decree u on t;");
        for (int i = 0; i < 6; i++) {
            due("a chain from " + i, x.falls(1 << i), 64 - (1 << i));
        }
        x = of("decree p;decree q;decree r on p q;decree s;");
        due("on one of two", x.falls(1), 5);
        due("on the other one", x.falls(2), 6);
        due("what rests on it falls, not what it rests on", x.falls(4), 4);
        due("nothing", x.falls(0), 0);
        due("all", x.falls(15), 15);
        says(22, "as bits; NONE: others");
        for (int other : new int[] {MIN, -2, -1, 16, 17, 32, 64, MAX}) {
            due("falls(" + other + ")", x.falls(other), -1);
        }
        due("no DECREES: nothing falls", of("").falls(0), 0);
        due("no DECREES", of("").falls(1), -1);
        due("six", of(decrees(6)).falls(63), 63);
        due("a seventh", of(decrees(6)).falls(64), -1);
        says(23, "the fewest of these to be passed anew so that one DECREE stands (it, and all that it rests on ..)");
        due("it stands", x.anew(8, 2), 0);
        due("it, and what fell of what it rests on", x.anew(1, 2), 5);
        due("it alone", x.anew(4, 2), 4);
        due("all that it rests on", x.anew(15, 2), 7);
        due("what rests on nothing", x.anew(15, 3), 8);
        due("nothing fell", x.anew(0, 2), 0);
        x = of("decree p;decree q on p;decree r on q;decree s on r;decree t on s;decree u on t;");
        for (int i = 0; i < 6; i++) {
            due("down the chain from " + i, x.anew(1, i), (2 << i) - 1);
            due("of all", x.anew(63, i), (2 << i) - 1);
            due("ahead of what fell", x.anew(32, i), i == 5 ? 32 : 0);
        }
        due("what stands below is not passed anew", x.anew(4, 4), 4 + 8 + 16);
        says(23, "NONE: others");
        for (int other : new int[] {MIN, -2, -1, 6, 7, 31, 32, 33, MAX}) {
            due("anew(0, " + other + ")", x.anew(0, other), -1);
        }
        for (int other : new int[] {MIN, -2, -1, 64, 65, MAX}) {
            due("anew(" + other + ", 0)", x.anew(other, 0), -1);
        }
        due("no DECREES", of("").anew(0, 0), -1);
    }

    // ---------------------------------------------------------------- promises 24, 25, 26: tell, who, when

    private static void telling() {
        String town = man("a", "plain", 3, 0, 0) + man("b", "idle", 3, 0, 0) + man("c", "plain", 4, 0, 0) + "consul a;" + danger("d", 12, 5) + danger("e", 99, 0);
        says(24, "behind so many months (0 to 12)");
        PloughCall x = of(town);
        due("0", x.tell(0, 0, 12), true);
        due("12", x.tell(0, 12, 0), true);
        due("-1", x.tell(0, -1, 12), false);
        due("13", x.tell(0, 13, 0), false);
        says(24, "so much (0 to 99)");
        due("0", x.tell(0, 12, 0), true);
        due("99", x.tell(1, 0, 99), true);
        due("-1", x.tell(1, 0, -1), false);
        due("100", x.tell(1, 0, 100), false);
        due("four are TOLD", x.count(11), 4);
        due("by all", x.who(), 7);
        says(24, "8 at most .. false: others, 8 are TOLD");
        for (int i = 5; i <= 8; i++) {
            due("tell", x.tell(1, 0, 99), true);
            due("count(11)", x.count(11), i);
        }
        due("a ninth", x.tell(1, 0, 0), false);
        due("count(11)", x.count(11), 8);
        due("it is not TOLD", x.who(), 7);
        x = of(town);
        for (int other : new int[] {MIN, -2, -1, 2, 5, MAX}) {
            due("danger " + other, x.tell(other, 0, 0), false);
        }
        for (int other : new int[] {MIN, MAX}) {
            due("months " + other, x.tell(0, other, 0), false);
            due("size " + other, x.tell(0, 0, other), false);
        }
        due("nothing is TOLD", x.count(11), 0);
        says(25, "[nothing TOLD: all MEN]");
        due("who", x.who(), 7);
        due("of no MEN", of(dangers(1)).who(), 0);
        due("of six", of(men(6)).who(), 63);
        says(25, "MEN by whom all TOLD is so");
        x.tell(0, 1, 9);
        due("a", x.who(), 1);
        x.tell(0, 1, 8);
        due("a and c can't be both", x.who(), 0);
        says(25, "(from its told size ..)");
        x = of(town);
        x.month(0);
        x.tell(0, 0, 12);
        due("not as it is now", x.who(), 7);
        says(25, "(.. as SOON, 0 from when it is 0)");
        x = of(town);
        x.tell(0, 4, 0);
        due("a and c, b by 3 months only", x.who(), 5);
        x.tell(0, 3, 0);
        due("c and a: 12 by 4, by 3 in four", x.who(), 4);
        x = of(town);
        x.tell(0, 5, 0);
        due("all behind 5", x.who(), 7);
        x.tell(0, 1, 12);
        due("who is idle at first", x.who(), 2);
        due("with works that could raise it no more", of(men(1) + danger("d", 2, 0) + "works 2-passed;").who(), 1);
    }

    private static void parting() {
        says(26, "the months (0 to 12) by which the greatest number of those MEN with like sizes is the least");
        String two = man("a", "plain", 1, 0, 0) + man("b", "plain", 2, 0, 0) + danger("d", 9, 0);
        due("behind 1", of(two).when(0), 1);
        due("behind 12", of(two + "works able*(passed=11);").when(0), 12);
        due("behind 13", of(two + "works able*(passed=12);").when(0), -1);
        // behind 1: 2 and 2 alike; behind 2: 1 1 2
        String four = man("a", "plain", 1, 0, 0) + man("b", "plain", 1, 0, 1) + man("c", "plain", 2, 0, 0) + man("f", "plain", 2, 0, 1) + danger("d", 50, 0);
        due("all parted behind 2", of(four + "works able*(passed=0)+greed*(passed=1)*5;").when(0), 2);
        // behind 1: 0 9 9 9, behind 2: 0 9 9 8, behind 3: 0 9 7 8
        due("with some at 0", of(man("a", "plain", 9, 0, 0) + man("b", "plain", 0, 0, 0) + man("c", "plain", 0, 0, 1) + man("f", "plain", 0, 0, 3) + danger("d", 9, 0)
            + "works able+(passed=1)*(greed=3)+2*(passed=2)*(greed=1);").when(0), 3);
        due("from 99", of(man("a", "plain", 1, 0, 0) + man("b", "plain", 2, 0, 0) + danger("d", 99, 0)).when(0), 1);
        says(26, "of equal ones the first");
        due("parted behind 1, 2 ..", of(four).when(0), 1);
        says(26, "if that is less than all .. NONE: others, none parts them");
        due("alike", of(man("a", "plain", 2, 0, 0) + man("b", "poor", 2, 9, 9) + danger("d", 9, 0)).when(0), -1);
        due("one MAN", of(men(1) + danger("d", 9, 0)).when(0), -1);
        due("no MEN", of(danger("d", 9, 0)).when(0), -1);
        PloughCall x = of(two);
        x.tell(0, 1, 8);
        due("one MAN is left", x.when(0), -1);
        x.tell(0, 1, 7);
        due("nobody is left", x.when(0), -1);
        for (int other : new int[] {MIN, -2, -1, 1, 5, MAX}) {
            due("when of " + other, of(two).when(other), -1);
        }
        says(26, "[from its told size]");
        x = of(men(1) + man("b", "plain", 1, 0, 0) + "consul a;" + danger("d", 1, 0));
        x.name(0, 1);
        x.month(0);
        due("it is 0 now", x.when(0), 1);
        says(26, "of those MEN [by whom all TOLD is so]");
        // d: 49 49 48, then 49 46 48; e: b alone makes it less
        x = of(man("a", "plain", 1, 0, 0) + man("b", "plain", 1, 0, 1) + man("c", "plain", 2, 0, 0) + danger("d", 50, 0) + danger("e", 60, 0)
            + "works (large<51)*(able*(passed=0)+3*greed*(passed=1))+(50<large)*greed;");
        due("all three behind 2", x.when(0), 2);
        x.tell(1, 1, 60);
        due("a and c", x.who(), 5);
        due("behind 1", x.when(0), 1);
    }

    // ---------------------------------------------------------------- promise 27: rests

    private static void resting() {
        says(27, "each gets so much (0 to 9) .. NoSuchElementException: others");
        due("0", rests(0, 0, 0, -1), 4);
        due("9", rests(9, 9, 9, -1), 3);
        for (int other : new int[] {MIN, -2, -1, 10, 11, MAX}) {
            due("wait " + other, rests(other, 1, 1, -1), THROWN);
            due("strike " + other, rests(1, other, 1, -1), THROWN);
            due("other " + other, rests(1, 1, other, -1), THROWN);
        }
        says(27, "by which neither would get more by the other");
        // more by striking ahead of waiting; as much is not more
        due("5 5 1: both wait, or one strikes", rests(5, 5, 1, -1), 3);
        due("5 6 1: one strikes", rests(5, 6, 1, -1), 2);
        due("6 5 1: both wait", rests(6, 5, 1, -1), 1);
        due("5 6 0: one strikes, or both", rests(5, 6, 0, -1), 3);
        due("6 5 0: both wait, or both strike", rests(6, 5, 0, -1), 2);
        due("5 5 0: all", rests(5, 5, 0, -1), 4);
        says(27, "i: the i-th as 2 * the first one's choice + the other one's (1 strikes; the least first)");
        due("5 6 1", rests(5, 6, 1, 0) * 10 + rests(5, 6, 1, 1), 12);
        due("6 5 0", rests(6, 5, 0, 0) * 10 + rests(6, 5, 0, 1), 3);
        due("5 6 0", rests(5, 6, 0, 0) * 100 + rests(5, 6, 0, 1) * 10 + rests(5, 6, 0, 2), 123);
        for (int i = 0; i < 4; i++) {
            due("5 5 0", rests(5, 5, 0, i), i);
        }
        says(27, "NoSuchElementException: .. none such");
        due("the second of one", rests(6, 5, 1, 1), THROWN);
        due("the third of two", rests(5, 6, 1, 2), THROWN);
        due("the fourth of three", rests(5, 6, 0, 3), THROWN);
        due("the fifth of four", rests(5, 5, 0, 4), THROWN);
        for (int other : new int[] {MIN, -3, -2, 5, MAX}) {
            due("what " + other, rests(5, 5, 0, other), THROWN);
        }
    }

    // ---------------------------------------------------------------- promise 28: ages

    private static void ages() {
        // draws by 0: 0, 21468, 9988, 22117, 3498, ..; by 9999: 4241, 233, 22049, 17954, 28191, 15727, ..
        says(28, "AGES by a SEED (0 to 9999)");
        PloughCall x = of(PAIR + danger("d", 4, 0) + danger("e", 8, 0) + "term 12;");
        x.name(0, 1);
        due("0: d, d, d", x.ages(0, 3, 0), 1);
        due("9999: e, e", x.ages(9999, 2, 0), 1);
        due("9999: e, e, e, d", x.ages(9999, 4, 0), 2);
        for (int other : new int[] {MIN, -2, -1, 10000, 10001, MAX}) {
            due("seed " + other, x.ages(other, 3, 0), -1);
        }
        says(28, "so many months (1 to 99)");
        due("1", x.ages(0, 1, 2), 95);
        due("12 of 99: he goes, a never", x.ages(0, 99, 2), 50);
        for (int other : new int[] {MIN, -2, -1, 0, 100, 101, MAX}) {
            due("months " + other, x.ages(0, other, 0), -1);
        }
        says(28, "what 0: .. 1: .. 2: ..; NONE: others");
        for (int other : new int[] {MIN, -2, -1, 3, 4, MAX}) {
            due("what " + other, x.ages(0, 1, other), -1);
        }
        says(28, "(all is as ahead then)");
        due("all", look(x), "2 2 0 1 0 1 -1 12 0 12 0 0 1 0 12 | 0 0 0 50 0 1 | 0 4 0 50 0 0 / 4 0 4 / 8 0 8 ");
        says(28, "if nobody has the POWER and there are MEN, a DRAW below these, and one more");
        // by 5: 18655 % 2 and 8457 % 2: b, b; 10616 % 2: d; 31877, 10193: b, b; 25964: d; 18104, 23667: a names b; 32572: d
        x = of(PAIR + danger("d", 4, 1) + danger("e", 8, 0));
        due("not yet", x.ages(5, 2, 2), 100);
        due("in the third month", x.ages(5, 3, 2), 95);
        due("d is 2 more: none came to 0", x.ages(5, 3, 0), 0);
        due("no MEN", of(danger("d", 4, 1)).ages(5, 99, 0), 0);
        due("no MEN: no fields", of(danger("d", 4, 1)).ages(5, 99, 2), 0);
        says(28, "the first one NAMES the second one, if that can be");
        due("whom he hates", of(PAIR + "hates a b;" + danger("d", 4, 1) + danger("e", 8, 0)).ages(5, 3, 2), 100);
        due("no consul", of(men(2) + danger("d", 4, 1) + danger("e", 8, 0)).ages(5, 99, 2), 21);
        says(28, "if there are DANGERS, a DRAW below these: a MONTH of it");
        due("no DANGERS: no MONTH", of(PAIR + "term 1;").ages(5, 99, 2), 100);
        due("nobody KEEPS it then", of(PAIR + "term 1;keeps 1;").ages(5, 99, 1), 0);
        says(28, "how many came to 0 by these");
        x = of(PAIR + danger("d", 4, 0) + danger("e", 3, 0) + danger("f", 2, 0) + "term 12;");
        x.name(0, 1);
        // by 0, below 3: 0 0 1 1 0 1 1 1 2
        due("d", x.ages(0, 1, 0), 1);
        due("not again", x.ages(0, 2, 0), 1);
        due("d, e", x.ages(0, 8, 0), 2);
        due("d, e, f", x.ages(0, 9, 0), 3);
        x.month(0);
        due("not what came to 0 ahead", x.ages(0, 2, 0), 0);
        says(28, "months behind which somebody KEEPS the POWER");
        x = of(PAIR + danger("d", 99, 0) + "term 3;keeps 1;");
        x.name(0, 1);
        for (int months = 1; months <= 5; months++) {
            due(months + " months", x.ages(0, months, 1), Math.max(0, months - 2));
        }
        due("99 months", x.ages(0, 99, 1), 97);
        x.month(0);
        x.month(0);
        x.month(0);
        due("he KEEPS it already", x.ages(0, 99, 1), 99);
        says(28, "fields of all at last");
        due("0 of b, 50 of a", x.ages(0, 99, 2), 50);
        due("35 of b less 5", x.ages(0, 1, 2), 80);
    }

    // ---------------------------------------------------------------- promises 29, 30: mark, count

    private static void marking() {
        says(29, "MARKS 0 to 3; false: none such");
        PloughCall x = of(TRIO + TWO_DANGERS);
        for (int other : new int[] {MIN, -2, -1, 4, 5, MAX}) {
            due("laid on " + other, x.mark(other, false), false);
            due("back to " + other, x.mark(other, true), false);
        }
        says(29, "false: .. nothing is on it (back)");
        for (int mark = 0; mark < 4; mark++) {
            due("back to " + mark, x.mark(mark, true), false);
        }
        for (int mark = 0; mark < 4; mark++) {
            x.month(0);
            due("laid on " + mark, x.mark(mark, false), true);
            for (int later = mark + 1; later < 4; later++) {
                due("nothing on " + later, x.mark(later, true), false);
            }
        }
        for (int mark = 0; mark < 4; mark++) {
            due("back to " + mark, x.mark(mark, true), true);
            due("the month", x.count(4), mark + 1);
        }
        due("back to 0, a second time", x.mark(0, true), true);
        due("the month", x.count(4), 1);
        due("laid anew", x.mark(3, false), true);
        due("back to 3", x.mark(3, true), true);
        due("the month", x.count(4), 1);
        says(29, "hold how it is, the MONTHS, what is TOLD");
        x = of(TRIO + TWO_DANGERS + "works passed;keeps 1;term 3;");
        x.name(0, 1);
        x.master(2);
        x.month(1);
        x.month(1);
        x.tell(0, 0, 10);
        months(x, "lay;month d;");
        x.mark(2, false);
        x.disobey(1, 0);
        x.month(1);
        x.tell(0, 0, 99);
        months(x, "month d;month d;month e;");
        due("told otherwise", x.who(), 0);
        due("he KEEPS it", x.count(8), 1);
        due("back", x.mark(2, true), true);
        due("all", look(x), "3 2 0 1 2 1 2 1 0 27 2 1 0 0 3 | 0 0 0 50 0 1 | 0 4 0 40 0 0 | 0 7 0 50 0 0 / 14 2 10 / 13 3 20 ");
        due("what is TOLD", x.who(), 7);
        due("the MONTHS", x.judged(0), 0);
        due("the MONTHS", x.judged(2), 35);
        x.month(1);
        due("passed: 13 - 2 - 3", x.danger(1, 0), 8);
        says(29, "[what was read or TOLD in between is gone]");
        String[] some = {"name a b;month d;", "name a b;master m;disobey d e;", "name a m;lay;"};
        String[] others = {"name a m;month e;", "name a m;master b;disobey e d;", "name m a;lay;"};
        int[] judged = {6 + 23, 6 + 13, 30};
        for (int i = 0; i < 3; i++) {
            PloughCall y = of(TRIO + TWO_DANGERS);
            due("MONTHS", months(y, some[i]), 0);
            y.mark(0, false);
            due("MONTHS", months(y, others[i]), 0);
            due("back", y.mark(0, true), true);
            due("judged(0)", y.judged(0), -1);
            due("judged(2)", y.judged(2), judged[i]);
            // b: d behind 2 is 2; TOLD otherwise by the DANGER, the months or the size
            y.mark(1, false);
            y.tell(0, 2, 2);
            y.mark(2, false);
            y.mark(1, true);
            due("nothing TOLD", y.count(11), 0);
            y.tell(i == 0 ? 1 : 0, i == 1 ? 1 : 2, i == 2 ? 3 : 2);
            due("by others", y.who(), 0);
            y.mark(2, true);
            due("by b", y.who(), 2);
        }
        says(29, "(nothing can be undone when one is gone back to)");
        due("a month can", x.undo(), true);
        due("no more", x.undo(), false);
        x.month(0);
        due("laying one leaves what can be undone", x.mark(1, false), true);
        due("count(12)", x.count(12), 1);
        due("a refused going back, too", x.mark(0, true), false);
        due("count(12)", x.count(12), 1);
        due("back", x.mark(1, true), true);
        due("count(12)", x.count(12), 0);
        due("undo", x.undo(), false);
        says(29, "[the TAPE is not held]");
        feed(x, "lay");
        x.mark(1, false);
        feed(x, ";");
        x.mark(1, true);
        due("the TAPE", x.count(13), 4);
    }

    private static void counting() {
        says(30, "NONE for another what");
        PloughCall x = of(TRIO + TWO_DANGERS + decrees(2) + "term 2;keeps 1;");
        for (int other : new int[] {MIN, -2, -1, 15, 16, MAX}) {
            due("count of " + other, x.count(other), -1);
        }
        says(30, "3: consuls, as bits");
        due("none", of(men(6)).count(3), 0);
        due("the first and the last", of(men(6) + "consul f;consul a;").count(3), 33);
        says(30, "5: .. (NONE: nobody), 6: .. (NONE: none)");
        due("nobody, none", x.count(5) * 10 + x.count(6), -11);
        x.name(0, 1);
        due("b, none", x.count(5) * 10 + x.count(6), 9);
        says(30, "7: months left (0: none, he KEEPS it)");
        due("2", x.count(7), 2);
        x.month(0);
        due("1", x.count(7), 1);
        x.month(0);
        due("he KEEPS it", x.count(7), 0);
        due("8", x.count(8), 1);
        x.undo();
        x.lay();
        due("nobody", x.count(7), 0);
        says(30, "9: all DANGERS together .. 11: TOLD");
        due("6 and 23", x.count(9), 29);
        due("none", of("").count(9), 0);
        due("495", of(danger("d", 99, 0) + danger("e", 99, 0) + danger("f", 99, 0) + danger("g", 99, 0) + danger("h", 99, 0)).count(9), 495);
    }

    public static void main(String[] args) {
        newObject();
        feeding();
        tapeTaken();
        tokens();
        menLines();
        consulsAndHaters();
        dangerLines();
        decreeLines();
        termAndLawLines();
        names();
        expressions();
        facts();
        worths();
        faults();
        newCity();
        newMonths();
        asked();
        naming();
        mastering();
        lessened();
        grown();
        monthClosed();
        termOver();
        disobeying();
        liked();
        laying();
        undoing();
        judging();
        soon();
        whom();
        terms();
        headings();
        sharing();
        waiting();
        chances();
        decreesFalling();
        telling();
        parting();
        resting();
        ages();
        marking();
        counting();
        System.out.println(wrong == 0 ? sentences + " sentences hold, by " + checked + " answers" : wrong + " answers are not as due");
        if (wrong != 0) {
            System.exit(1);
        }
    }
}
