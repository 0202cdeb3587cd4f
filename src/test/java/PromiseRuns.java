import java.util.NoSuchElementException;

/** For each promise of the document: ordinary inputs, the edges that it names, wrong inputs; answers worked out by hand. */
public final class PromiseRuns {
    private static final int[] EDGES = {Integer.MIN_VALUE, -3, -2, Integer.MAX_VALUE};
    private static final long THROWN = 1L << 40;
    private static int wrong = 0;
    private static int checked = 0;

    private static final String SMALL = "man ann plain skill 4 field 12 want 1; man bob poor skill 7 field 25 want 2;"
        + "man cid proud skill 5 field 50 want 3; man dan idle skill 9 field 99 want 9; consul ann; consul cid; hates ann bob;"
        + "danger war size 10 grows 2; danger flood size 6 grows 9; danger fire size 1 grows 0; term 3;";

    private static void due(int promise, String call, long got, long want) {
        checked++;
        if (got != want) {
            wrong++;
            System.out.println("promise " + promise + ": " + call + " answered " + got + ", due is " + want);
        }
    }

    private static void due(int promise, String call, boolean got, boolean want) {
        due(promise, call, got ? 1 : 0, want ? 1 : 0);
    }

    private static int feed(PloughCall x, String text) {
        int signs = x.count(13);
        for (int from = 0; from < text.length(); from += 24) {
            long[] parts = new long[3];
            for (int i = 0; i < 24 && from + i < text.length(); i++) {
                parts[i / 8] |= (long) text.charAt(from + i) << 56 - 8 * (i % 8);
            }
            signs = x.feed(parts[0], parts[1], parts[2]);
        }
        return signs;
    }

    private static int city(PloughCall x, String text) {
        feed(x, text);
        return x.city();
    }

    private static int months(PloughCall x, String text) {
        feed(x, text);
        return x.months();
    }

    private static PloughCall of(String text) {
        PloughCall x = new PloughCall();
        due(3, "city of " + text, city(x, text), 0);
        return x;
    }

    private static long chance(PloughCall x, int man, int danger, int odds, int months) {
        try {
            return x.chance(man, danger, odds, months);
        } catch (NoSuchElementException e) {
            return THROWN;
        }
    }

    private static long rests(PloughCall x, int wait, int strike, int other, int what) {
        try {
            return x.rests(wait, strike, other, what);
        } catch (NoSuchElementException e) {
            return THROWN;
        }
    }

    private static void newObject() {
        PloughCall x = new PloughCall();
        int[] first = {0, 0, 0, 0, 0, -1, -1, 0, 0, 0, 0, 0, 0, 0, 6};
        for (int what = 0; what < first.length; what++) {
            due(1, "count(" + what + ")", x.count(what), first[what]);
        }
        due(1, "NONE", PloughCall.NONE, -1);
        due(1, "man(0, 0)", x.man(0, 0), -2);
        due(1, "danger(0, 0)", x.danger(0, 0), -2);
        due(1, "undo()", x.undo(), false);
        due(1, "mark(0, true)", x.mark(0, true), false);
        due(1, "mark(0, false)", x.mark(0, false), true);
        due(1, "mark(0, true)", x.mark(0, true), true);
        due(1, "ages(0, 99, 2)", x.ages(0, 99, 2), 0);
    }

    private static void feeding() {
        PloughCall x = new PloughCall();
        due(2, "feed(0, 0, 0)", x.feed(0, 0, 0), 0);
        due(2, "feed(-1, -1, -1)", x.feed(-1, -1, -1), 0);
        due(2, "feed of 10, 31, 32, 126, 127, 9, 11, 128", x.feed(0x0a1f207e7f090b80L, 0, 0), 3);
        due(2, "count(13)", x.count(13), 3);
        // the ~ behind a newline and a blank is no token, at place 2
        due(2, "city()", x.city(), 33);
        due(2, "count(13)", x.count(13), 0);
        // the highest byte first, a ahead of b ahead of c
        due(2, "feed of 'term 12;'", x.feed(0x7465000000000000L, 0x726d20L, 0x31323b0000000000L), 8);
        due(2, "city()", x.city(), 0);
        due(2, "count(14)", x.count(14), 12);
        for (int i = 0; i < 41; i++) {
            due(2, "feed of 24 blanks", x.feed(0x2020202020202020L, 0x2020202020202020L, 0x2020202020202020L), 24 * (i + 1));
        }
        due(2, "feed up to 1,000", x.feed(0x2020202020202020L, 0x2020202020203b20L, 0x2020202020202020L), 1000);
        due(2, "feed beyond", x.feed(0x3b3b3b3b3b3b3b3bL, 0x3b, 0), 1000);
        due(2, "city() of 998 blanks and a ;", x.city(), 1 + 16 * 998);
        due(2, "feed behind it", x.feed(0x20, 0, 0), 1);
    }

    private static void cities() {
        PloughCall x = of(SMALL);
        int[] due = {4, 3, 0, 5, 0, -1, -1, 0, 0, 17, 0, 0, 0, 0, 3};
        for (int what = 0; what < due.length; what++) {
            due(3, "count(" + what + ")", x.count(what), due[what]);
        }
        x.name(0, 2);
        x.month(0);
        x.tell(0, 0, 10);
        x.mark(2, false);
        due(3, "months", months(x, "lay;"), 0);
        // with a FAULT all stays, but for the TAPE
        due(3, "city with a fault", city(x, "man a plain skill 4 field 1 want 1; term 13;"), 4 + 16 * 41);
        due(3, "count(0)", x.count(0), 4);
        due(3, "count(4)", x.count(4), 1);
        due(3, "count(5)", x.count(5), 2);
        due(3, "count(10)", x.count(10), 1);
        due(3, "count(12)", x.count(12), 2);
        due(3, "count(13)", x.count(13), 0);
        due(3, "count(14)", x.count(14), 3);
        due(3, "mark(2, true)", x.mark(2, true), true);
        x.name(0, 2);
        x.month(0);
        // without one all begins anew
        due(3, "city", city(x, "danger war size 3 grows 1;"), 0);
        int[] anew = {0, 1, 0, 0, 0, -1, -1, 0, 0, 3, 0, 0, 0, 0, 6};
        for (int what = 0; what < anew.length; what++) {
            due(3, "count(" + what + ") anew", x.count(what), anew[what]);
        }
        due(3, "mark(2, true)", x.mark(2, true), false);
        due(3, "undo()", x.undo(), false);
        due(3, "city of nothing", x.city(), 0);
        due(3, "count(1)", x.count(1), 0);
    }

    private static void fault(PloughCall x, String text, int kind, int place) {
        due(3, "city of '" + text + "'", city(x, text), kind == 0 ? 0 : kind + 16 * place);
    }

    private static void cityFaults() {
        PloughCall x = new PloughCall();
        String man = "man a plain skill 0 field 0 want 0;";
        fault(x, ";", 1, 0);
        fault(x, "  \n ", 0, 0);
        fault(x, "man", 1, 3);
        fault(x, "man  ", 1, 5);
        fault(x, "man man", 1, 4);
        fault(x, "man not", 1, 4);
        fault(x, "man able plain skill 9 field 99 want 9;", 0, 0);
        fault(x, "man abcdefgh idle skill 0009 field 0 want 0;", 0, 0);
        fault(x, "man abcdefghi idle", 1, 4);
        fault(x, "man a idle skill 00009", 1, 17);
        fault(x, "man a idle skill 9field 9want 9;", 0, 0);
        fault(x, "mana", 1, 0);
        fault(x, "man a1", 1, 5);
        fault(x, "man A", 1, 4);
        fault(x, "man a plain skill 10", 4, 18);
        fault(x, "man a plain skill 9 field 100", 4, 26);
        fault(x, "man a plain skill 9 field 99 want 10", 4, 34);
        fault(x, "man a plain skill 9 field 99 want 9", 1, 35);
        fault(x, "man a plain field", 1, 12);
        fault(x, man + "man a", 3, 39);
        fault(x, man + "danger a", 3, 42);
        fault(x, man + "decree a", 3, 42);
        fault(x, "danger a size 1 grows 0; man a", 3, 29);
        fault(x, "decree a; danger a", 3, 17);
        StringBuilder six = new StringBuilder();
        for (char c = 'a'; c < 'g'; c++) {
            six.append("man ").append(c).append(" plain skill 0 field 0 want 0;");
        }
        fault(x, six + "", 0, 0);
        fault(x, six + "man 7", 5, 210);
        fault(x, six + "men", 1, 210);
        fault(x, "consul x", 2, 7);
        fault(x, "danger x size 1 grows 1;consul x", 2, 31);
        fault(x, "consul 7", 1, 7);
        fault(x, "consul consul", 1, 7);
        fault(x, six + "consul a;consul a", 3, 226);
        fault(x, six + "consul a;consul b;", 0, 0);
        fault(x, six + "consul a;consul b;consul", 5, 228);
        fault(x, six + "hates a a", 3, 218);
        fault(x, six + "hates a z", 2, 218);
        fault(x, six + "hates z a", 2, 216);
        fault(x, six + "hates a;", 1, 217);
        fault(x, six + "hates a b;hates b a;", 0, 0);
        fault(x, six + "hates a b;hates b a;hates a b", 3, 238);
        fault(x, "danger a size 0", 4, 14);
        fault(x, "danger a size 100", 4, 14);
        fault(x, "danger a size 99 grows 10", 4, 23);
        fault(x, "danger a size 99 grows 9;", 0, 0);
        fault(x, "danger a size 1grows 0;danger b size 1grows 0;danger c size 1grows 0;danger d size 1grows 0;"
            + "danger e size 1grows 0;danger", 5, 115);
        fault(x, "decree a;decree b;decree c;decree d;decree e;decree f;", 0, 0);
        fault(x, "decree a;decree b;decree c;decree d;decree e;decree f;decree", 5, 54);
        fault(x, "decree a on;", 1, 11);
        fault(x, "decree a on a", 2, 12);
        fault(x, "decree a;decree b on a a", 3, 23);
        fault(x, "decree a;decree b on a b", 2, 23);
        fault(x, "decree a;decree b on a on", 1, 23);
        fault(x, "decree a;decree b;decree c;decree d;decree e;decree f on e d c b a;", 0, 0);
        fault(x, man + "decree b on a", 2, 47);
        fault(x, "term 0", 4, 5);
        fault(x, "term 12;", 0, 0);
        fault(x, "term a", 1, 5);
        fault(x, "term 1;term", 3, 7);
        fault(x, "works 1;keeps 1;works", 3, 16);
        fault(x, "keeps 1;works 1;keeps", 3, 16);
        fault(x, "name a b;", 1, 0);
        fault(x, "lay;", 1, 0);
    }

    private static void names() {
        PloughCall x = new PloughCall();
        String reserved = "man skill field want consul hates danger size grows decree on term works keeps name master month disobey lay "
            + "plain poor proud idle not and or";
        for (String word : reserved.split(" ")) {
            fault(x, "decree " + word + ";", 1, 7);
        }
        for (String word : "able greed large passed liked left a zzzzzzzz mann ma".split(" ")) {
            fault(x, "decree " + word + ";", 0, 0);
        }
        // a line ends by ; alone, whatever could begin the next one
        String men = "man a plain skill 0 field 0 want 0;man b plain skill 0 field 0 want 0;";
        fault(x, men + "consul a consul b;", 1, 79);
        fault(x, men + "hates a b consul b;", 1, 80);
        fault(x, "danger p size 1 grows 1 danger q size 1 grows 1;", 1, 24);
        fault(x, "decree p decree q;", 1, 9);
        fault(x, "term 1 works 1;", 1, 7);
        fault(x, "works 1 term 1;", 1, 8);
        fault(x, "man a plain skill 0 field 0 want 0 term 1;", 1, 35);
        due(4, "city", city(x, men), 0);
        due(4, "lay lay;", months(x, "lay lay;"), 1 + 16 * 4);
        due(4, "name a b lay;", months(x, "name a b lay;"), 1 + 16 * 9);
    }

    private static void lawFaults() {
        PloughCall x = new PloughCall();
        fault(x, "works;", 1, 5);
        fault(x, "works able+greed*large-passed;keeps able+greed*liked-left;", 0, 0);
        fault(x, "works liked;", 1, 6);
        fault(x, "works left;", 1, 6);
        fault(x, "keeps large;", 1, 6);
        fault(x, "keeps passed;", 1, 6);
        fault(x, "works 9999;", 0, 0);
        fault(x, "works 10000;", 1, 6);
        fault(x, "works 1 2;", 1, 8);
        fault(x, "works 1<2<3;", 1, 9);
        fault(x, "works 1<2=3;", 1, 9);
        fault(x, "works (1<2)=3;", 0, 0);
        fault(x, "works 1<2 and 3=4 or 5;", 0, 0);
        fault(x, "works 1);", 1, 7);
        fault(x, "works (1;", 1, 8);
        fault(x, "works ();", 1, 7);
        fault(x, "works -1;", 1, 6);
        fault(x, "works 1+;", 1, 8);
        fault(x, "works 1 not 2;", 1, 8);
        fault(x, "works and;", 1, 6);
        fault(x, "works 1", 1, 7);
        fault(x, "works not", 1, 9);
        // a PART lies within four at most
        fault(x, "works ((((1))));", 0, 0);
        fault(x, "works not not not not 1;", 0, 0);
        fault(x, "works (((((1)))));", 5, 11);
        fault(x, "works ((((((1))))));", 5, 11);
        fault(x, "works not not not not not 1;", 5, 26);
        fault(x, "works not not not not not not 1;", 5, 26);
        fault(x, "works not(not(not able));", 5, 18);
        fault(x, "works ((((1)+(1))));", 0, 0);
        fault(x, "works (((((;", 1, 11);
        fault(x, "works (((((left;", 1, 11);
    }

    private static void monthsReading() {
        PloughCall x = of(SMALL);
        due(4, "months", months(x, "name ann cid;master bob;month war;disobey war fire;lay;"), 0);
        due(4, "count(10)", x.count(10), 5);
        due(4, "months with a fault", months(x, "lay;lay 1;"), 1 + 16 * 8);
        due(4, "count(10)", x.count(10), 5);
        due(4, "months of nothing", x.months(), 0);
        due(4, "count(10)", x.count(10), 0);
        due(4, "name of no man", months(x, "name war ann;"), 2 + 16 * 5);
        due(4, "name of no second man", months(x, "name ann zoe;"), 2 + 16 * 9);
        due(4, "name the same", months(x, "name ann ann;"), 3 + 16 * 9);
        due(4, "master of a danger", months(x, "master war;"), 2 + 16 * 7);
        due(4, "master reserved", months(x, "master man;"), 1 + 16 * 7);
        due(4, "month of a man", months(x, "month ann;"), 2 + 16 * 6);
        due(4, "disobey of one", months(x, "disobey war;"), 1 + 16 * 11);
        due(4, "disobey the same", months(x, "disobey war war;"), 3 + 16 * 12);
        due(4, "disobey a man", months(x, "disobey war ann;"), 2 + 16 * 12);
        due(4, "no line", months(x, "term 3;"), 1);
        due(4, "no ;", months(x, "lay"), 1 + 16 * 3);
        StringBuilder forty = new StringBuilder();
        for (int i = 0; i < 40; i++) {
            forty.append("lay;");
        }
        due(4, "40 lines", months(x, forty + ""), 0);
        due(4, "count(10)", x.count(10), 40);
        due(4, "41 lines", months(x, forty + "lay;"), 5 + 16 * 160);
        due(4, "a 41st line of no kind", months(x, forty + "man;"), 1 + 16 * 160);
        due(4, "count(4)", x.count(4), 0);
        due(4, "count(12)", x.count(12), 0);
    }

    private static void menAndDangers() {
        PloughCall x = of(SMALL);
        int[][] men = {{0, 4, 1, 12, 0, 1}, {1, 7, 2, 25, 0, 0}, {2, 5, 3, 50, 0, 1}, {3, 9, 9, 99, 0, 0}};
        for (int man = 0; man < 4; man++) {
            for (int what = 0; what < 6; what++) {
                due(5, "man(" + man + ", " + what + ")", x.man(man, what), men[man][what]);
            }
            due(5, "man of 6", x.man(man, 6), -2);
            due(5, "man of -1", x.man(man, -1), -2);
        }
        due(5, "man 4", x.man(4, 0), -2);
        due(5, "man -1", x.man(-1, 0), -2);
        int[][] dangers = {{10, 2, 10}, {6, 9, 6}, {1, 0, 1}};
        for (int danger = 0; danger < 3; danger++) {
            for (int what = 0; what < 3; what++) {
                due(6, "danger(" + danger + ", " + what + ")", x.danger(danger, what), dangers[danger][what]);
            }
            due(6, "danger of 3", x.danger(danger, 3), -2);
        }
        due(6, "danger 3", x.danger(3, 0), -2);
        due(6, "danger -1", x.danger(-1, 0), -2);
        x.month(1);
        due(6, "size now", x.danger(0, 0), 12);
        due(6, "size as told", x.danger(0, 2), 10);
        for (int edge : EDGES) {
            due(5, "man of an edge", x.man(edge, 0), -2);
            due(5, "what of an edge", x.man(0, edge), -2);
            due(6, "danger of an edge", x.danger(edge, 0), -2);
            due(6, "what of an edge", x.danger(0, edge), -2);
        }
    }

    private static void naming() {
        PloughCall x = of(SMALL);
        boolean[][] may = {{false, false, true, true}, {}, {true, true, false, true}, {}};
        for (int consul = 0; consul < 4; consul++) {
            for (int man = 0; man < 4; man++) {
                due(7, "may(" + consul + ", " + man + ")", x.may(consul, man), may[consul].length > 0 && may[consul][man]);
            }
        }
        for (int edge : EDGES) {
            due(7, "may of an edge", x.may(edge, 0) || x.may(0, edge) || x.may(2, -1) || x.may(2, 4), false);
            due(8, "name of an edge", x.name(edge, 0) || x.name(0, edge) || x.name(2, -1) || x.name(2, 4), false);
            due(9, "master of an edge", x.master(edge), false);
        }
        due(8, "name whom he hates", x.name(0, 1), false);
        due(8, "name by no consul", x.name(1, 0), false);
        due(8, "name himself", x.name(2, 2), false);
        due(9, "master of nobody", x.master(1), false);
        due(8, "count(12)", x.count(12), 0);
        due(8, "name", x.name(2, 1), true);
        due(8, "has it", x.count(5), 1);
        due(8, "no master", x.count(6), -1);
        due(8, "for the term", x.count(7), 3);
        due(8, "name while somebody has it", x.name(0, 3), false);
        due(7, "may while somebody has it", x.may(0, 3), true);
        due(9, "master of himself", x.master(1), false);
        due(9, "a consul as master", x.master(0), false);
        due(9, "no man", x.master(4), false);
        due(9, "master", x.master(3), true);
        due(9, "again", x.master(3), false);
        due(9, "count(6)", x.count(6), 3);
        due(9, "count(12)", x.count(12), 2);
        x.lay();
        due(9, "gone with him", x.count(6), -1);
        PloughCall y = of("man a plain skill 1 field 1 want 1;man b plain skill 1 field 1 want 1;man c plain skill 1 field 1 want 1;consul a;");
        due(9, "name", y.name(0, 1), true);
        due(9, "master", y.master(2), true);
        y.lay();
        due(9, "name", y.name(0, 2), true);
        due(9, "master", y.master(1), true);
        due(9, "count(6)", y.count(6), 1);
    }

    private static void passing() {
        PloughCall x = of(SMALL);
        for (int edge : EDGES) {
            due(10, "month of an edge", x.month(edge), -1);
            due(11, "disobey of an edge", x.disobey(edge, 0), -1);
            due(11, "disobey of an edge", x.disobey(0, edge), -1);
        }
        due(10, "month of none", x.month(3), -1);
        // nobody turns to it: all grow, 99 at most
        due(10, "month", x.month(0), 0);
        due(10, "grown", x.danger(0, 0), 12);
        due(10, "grown", x.danger(1, 0), 15);
        due(10, "grown by 0", x.danger(2, 0), 1);
        due(10, "count(4)", x.count(4), 1);
        due(11, "disobey nobody", x.disobey(0, 1), -1);
        due(10, "name", x.name(2, 1), true);
        due(11, "disobey without a master", x.disobey(0, 1), -1);
        // 12 - 7, flood 15 + 9; a poor one's field 25 - 10
        due(10, "month", x.month(0), 0);
        due(10, "less by skill", x.danger(0, 0), 5);
        due(10, "flood grows", x.danger(1, 0), 24);
        due(10, "field of a poor one", x.man(1, 3), 15);
        due(10, "months left", x.count(7), 2);
        due(9, "master", x.master(3), true);
        // dan's skill 9, half of it 4: 24 - 7 - 4; war 5 + 2
        due(10, "month", x.month(1), 0);
        due(10, "less by both", x.danger(1, 0), 13);
        due(10, "war grows", x.danger(0, 0), 7);
        // disobeying: war 7 - 7, fire 1 - 9; two came to 0, bob is liked 6, dan 1; the term is over, 9 < 2 + 6 is not so
        due(11, "disobey the same", x.disobey(0, 0), -1);
        due(11, "disobey", x.disobey(0, 2), 2);
        due(11, "flood grows", x.danger(1, 0), 22);
        due(11, "bob liked", x.man(1, 4), 6);
        due(11, "dan liked", x.man(3, 4), 1);
        due(11, "field", x.man(1, 3), 0);
        due(11, "he goes", x.count(5), -1);
        due(11, "no master", x.count(6), -1);
        due(11, "months left", x.count(7), 0);
        due(11, "count(4)", x.count(4), 4);
        // what is 0 does not grow and does not come to 0 again
        due(10, "name", x.name(2, 0), true);
        due(10, "month of what is 0", x.month(0), 0);
        due(10, "stays 0", x.danger(0, 0), 0);
        due(10, "not liked for it", x.man(0, 4), 0);
        due(10, "field less by 5", x.man(0, 3), 7);
        for (int i = 0; i < 20; i++) {
            x.month(0);
        }
        due(10, "99 at most", x.danger(1, 0), 99);
        due(10, "field 0 at least", x.man(0, 3), 0);
    }

    private static void keeping() {
        // proud: 5 for each that came to 0; 9 < 5 + 5 is so behind the third month
        PloughCall x = of("man a plain skill 0 field 9 want 0;man b proud skill 9 field 60 want 5;man c plain skill 8 field 5 want 5;"
            + "consul a;danger d size 18 grows 1;danger e size 50 grows 0;term 3;");
        x.name(0, 1);
        due(10, "month", x.month(0), 0);
        due(10, "month", x.month(0), 1);
        due(10, "liked", x.man(1, 4), 5);
        due(10, "month", x.month(1), 0);
        due(10, "he keeps it", x.count(8), 1);
        due(10, "has it", x.count(5), 1);
        due(10, "no months", x.count(7), 0);
        due(12, "lay by who keeps it", x.lay(), -1);
        due(8, "name while he keeps it", x.name(0, 2), false);
        due(9, "master of who keeps it", x.master(2), true);
        due(10, "month", x.month(1), 0);
        due(10, "41 - 9 - 4", x.danger(1, 0), 28);
        due(10, "field goes on", x.man(1, 3), 40);
        due(11, "disobey", x.disobey(0, 1), 0);
        due(11, "28 - 8", x.danger(1, 0), 20);
        due(11, "all of it", x.man(2, 4), 1);
        due(10, "still keeps it", x.count(8), 1);
        for (int i = 0; i < 5; i++) {
            x.undo();
        }
        due(13, "nobody keeps it", x.count(8), 0);
        due(13, "months left", x.count(7), 2);
        // liked 99 at most, by a law that is so only for left = 0 and liked = 99
        PloughCall y = of("man a plain skill 0 field 9 want 0;man b plain skill 0 field 9 want 0;man m plain skill 2 field 0 want 0;consul a;"
            + "danger d size 1 grows 0;danger e size 99 grows 0;term 12;keeps liked=99 and left=1;");
        for (int i = 0; i < 10; i++) {
            y.name(0, 2);
            y.lay();
        }
        due(12, "liked 99 at most", y.man(2, 4), 99);
        y.name(0, 2);
        for (int i = 0; i < 12; i++) {
            y.month(1);
        }
        due(10, "left was 75 + 1", y.count(5), -1);
        y.name(0, 1);
        y.master(2);
        due(11, "disobey", y.disobey(0, 1), 0);
        due(11, "liked 99 at most", y.man(2, 4), 99);
        due(11, "e is less by all his skill", y.danger(1, 0), 73);
    }

    private static void laws() {
        // works: below 0 is 0, above 99 is 99; large and passed as they are then
        String men = "man a plain skill 2 field 9 want 7;man b idle skill 3 field 9 want 4;consul a;";
        PloughCall x = of(men + "danger d size 50 grows 0;works able-greed;");
        x.name(0, 1);
        x.month(0);
        due(10, "nothing below 0", x.danger(0, 0), 50);
        x = of(men + "danger d size 99 grows 0;works 9999;");
        due(15, "99 at most", x.soon(0, 0), 1);
        x = of(men + "danger d size 20 grows 0;works passed;");
        // 0 1 2 3 4 5: 15, and 6: 21
        due(15, "soon by passed", x.soon(0, 0), 7);
        x.name(0, 1);
        for (int i = 0; i < 3; i++) {
            x.month(0);
        }
        due(10, "20 - 0 - 1 - 2", x.danger(0, 0), 17);
        x.lay();
        x.name(0, 1);
        x.month(0);
        due(10, "passed begins anew with a naming", x.danger(0, 0), 17);
        x = of(men + "danger d size 40 grows 0;works large-30;");
        // 40 30 30 ..
        x.name(0, 1);
        x.month(0);
        due(10, "large then", x.danger(0, 0), 30);
        due(15, "never", x.soon(0, 0), -1);
        // from the left: (1 or 1) and 0 is 0; not binds its PART alone; * ahead of +; < of sums
        String[][] worths = {{"1 or 1 and 0", "0"}, {"0 and 1 or 1", "1"}, {"not 0*5", "5"}, {"not 2+3", "3"}, {"2+3*4", "14"}, {"(2+3)*4", "20"},
            {"9-2-3", "4"}, {"1+1<3", "1"}, {"3=1+2", "1"}, {"5 and 7", "1"}, {"0 or 0", "0"}, {"not not 7", "1"}, {"3<2 or 2", "1"}, {"8-(2<3)", "7"},
            {"able", "3"}, {"greed", "4"}, {"large", "50"}, {"passed", "0"}, {"0-1", "0"}, {"100", "99"}, {"0100", "99"}, {"2*not 0", "2"},
            {"9999*9999*9999*9999+3*0", "99"}, {"9999*9999*9999*9999*9999*0+1", "1"}, {"1<0-1", "0"}, {"0-1<0", "1"}, {"0-1 and 1", "1"},
            // 9999 to the third, 999700029999, is -1027349969 as an int
            {"9999*9999*9999<0", "1"}, {"9999*9999*9999=0-1027*1000*1000-349*1000-969", "1"}};
        for (String[] w : worths) {
            PloughCall y = of(men + "danger d size 50 grows 0;works " + w[0] + ";");
            y.name(0, 1);
            y.month(0);
            due(10, "works " + w[0], y.danger(0, 0), Math.max(0, 50 - Integer.parseInt(w[1])));
        }
        // keeps may stand ahead of works; many long laws, one behind the other
        x = new PloughCall();
        for (int i = 0; i < 9; i++) {
            StringBuilder law = new StringBuilder(i + "");
            for (int k = 0; k < 150; k++) {
                law.append("+0");
            }
            due(3, "a long law", city(x, men + "danger d size 50 grows 0;keeps " + law + "-" + i + "+left-" + (50 - i) + ";works " + law + "+1;"), 0);
            x.name(0, 1);
            x.month(0);
            due(10, "works of a long law", x.danger(0, 0), 49 - i);
            for (int k = 0; k < 5; k++) {
                x.month(0);
            }
            due(10, "keeps of a long law", x.count(8), 1);
        }
        // without works: an idle one does nothing in his first month
        x = of(men + "danger d size 9 grows 1;");
        x.name(0, 1);
        x.month(0);
        due(10, "idle", x.danger(0, 0), 9);
        x.month(0);
        due(10, "no longer", x.danger(0, 0), 6);
        due(15, "idle", x.soon(1, 0), 3);
    }

    private static void layingAndUndoing() {
        PloughCall x = of(SMALL);
        due(12, "lay of nobody", x.lay(), -1);
        x.name(0, 2);
        x.month(0);
        due(12, "lay", x.lay(), 2);
        due(12, "liked", x.man(2, 4), 2);
        due(12, "nobody", x.count(5), -1);
        due(12, "no months", x.count(7), 0);
        due(12, "the month stays", x.count(4), 1);
        due(12, "lay again", x.lay(), -1);
        due(13, "count(12)", x.count(12), 3);
        due(13, "undo", x.undo(), true);
        due(13, "has it", x.count(5), 2);
        due(13, "months", x.count(7), 2);
        due(13, "liked", x.man(2, 4), 0);
        due(13, "undo", x.undo(), true);
        due(13, "size", x.danger(0, 0), 10);
        due(13, "size", x.danger(1, 0), 6);
        due(13, "field", x.man(2, 3), 50);
        due(13, "months", x.count(7), 3);
        due(13, "month", x.count(4), 0);
        due(13, "undo", x.undo(), true);
        due(13, "nobody", x.count(5), -1);
        due(13, "undo of nothing", x.undo(), false);
        for (int i = 0; i < 20; i++) {
            x.month(0);
        }
        due(13, "16 at most", x.count(12), 16);
        for (int i = 0; i < 16; i++) {
            due(13, "undo", x.undo(), true);
        }
        due(13, "no more", x.undo(), false);
        due(13, "month", x.count(4), 4);
        due(13, "size", x.danger(0, 0), 18);
        x.tell(0, 1, 1);
        due(13, "told can't be undone", x.undo(), false);
    }

    private static void judging() {
        PloughCall x = of(SMALL);
        due(14, "judged(2) of no MONTHS", x.judged(2), 17);
        due(14, "judged(0) of no MONTHS", x.judged(0), -1);
        x.month(0);
        // month: 12 15 1; name; war 12 - 5, 24, 1; disobey can't be; lay; lay can't be; month: 9 33 1
        due(14, "months", months(x, "month war;name ann cid;month war;disobey war fire;lay;lay;month fire;"), 0);
        due(14, "judged(0)", x.judged(0), 3);
        due(14, "judged(1)", x.judged(1), -1);
        due(14, "judged(2)", x.judged(2), 43);
        due(14, "all stays", x.count(4), 1);
        due(14, "months", months(x, "lay;name cid dan;month fire;month fire;month war;name cid ann;"), 0);
        // dan is idle at first; fire comes to 0 in the second month: 9 < 9 + 3
        due(14, "judged(0)", x.judged(0), 0);
        due(14, "judged(1)", x.judged(1), 4);
        due(14, "judged(2)", x.judged(2), 10 + 2 + 2 - 9 + 33);
        due(14, "months", months(x, "name ann bob;"), 0);
        due(14, "whom he hates", x.judged(0), 0);
        due(14, "months", months(x, "name ann cid;master bob;master dan;master ann;"), 0);
        due(14, "a consul as master", x.judged(0), 3);
        due(14, "judged(-1)", x.judged(-1), -2);
        due(14, "judged(3)", x.judged(3), -2);
        for (int edge : EDGES) {
            due(14, "judged of an edge", x.judged(edge), -2);
        }
    }

    private static void asking() {
        PloughCall x = of(SMALL);
        int[][] soon = {{3, 2, 1}, {2, 1, 1}, {2, 2, 1}, {3, 2, 2}};
        for (int man = 0; man < 4; man++) {
            for (int danger = 0; danger < 3; danger++) {
                due(15, "soon(" + man + ", " + danger + ")", x.soon(man, danger), soon[man][danger]);
            }
        }
        for (int edge : EDGES) {
            due(15, "soon of an edge", x.soon(edge, 0), -1);
            due(15, "soon of an edge", x.soon(0, edge), -1);
            due(16, "whom of an edge", x.whom(edge), -1);
            due(17, "terms of an edge", x.terms(edge), -1);
        }
        due(15, "soon of no man", x.soon(4, 0), -1);
        due(15, "soon of no danger", x.soon(0, 3), -1);
        due(15, "soon of -1", x.soon(-1, 0), -1);
        PloughCall y = of("man a plain skill 4 field 0 want 0;danger d size 96 grows 9;danger e size 97 grows 0;");
        due(15, "24 months", y.soon(0, 0), 24);
        due(15, "25 months", y.soon(0, 1), -1);
        due(16, "no consul", y.whom(0), -1);
        due(17, "no consul", y.terms(0), -1);
        // war: bob in 2, cid in 2: the first; flood: bob in 1
        due(16, "whom(0)", x.whom(0), 1);
        due(16, "whom(1)", x.whom(1), 1);
        due(16, "whom(2)", x.whom(2), 0);
        due(16, "whom(3)", x.whom(3), -1);
        due(16, "whom(-1)", x.whom(-1), -1);
        due(17, "terms(0)", x.terms(0), 2);
        due(17, "terms(1)", x.terms(1), 1);
        due(17, "terms(3)", x.terms(3), -1);
        // when bob has been liked 8 he would keep it (9 < 2 + 8 + 3); then cid, ann are left
        for (int i = 0; i < 3; i++) {
            x.name(2, 1);
            x.lay();
        }
        due(16, "liked", x.man(1, 4), 9);
        due(16, "whom(0) now", x.whom(0), 2);
        due(16, "whom(1) now", x.whom(1), 0);
        due(17, "terms(1) now", x.terms(1), 2);
        // a DANGER that is 0: in 0 months, not liked more for it; the least term is 1
        x.name(2, 1);
        x.month(2);
        x.lay();
        due(16, "fire is 0", x.danger(2, 0), 0);
        due(15, "soon of 0", x.soon(3, 2), 0);
        due(16, "whom of 0", x.whom(2), 0);
        due(17, "terms of 0", x.terms(2), 1);
        // by the other DANGERS grown for those months: 6 + 9 * 2, 99 at most
        String town = "man a plain skill 1 field 0 want 0;man b plain skill 5 field 0 want 0;man c proud skill 9 field 0 want 0;consul a;"
            + "danger d size 10 grows 0;danger e size 6 grows 9;";
        due(16, "b would keep it", of(town + "keeps left=24;").whom(0), -1);
        due(16, "b would not", of(town + "keeps left=25;").whom(0), 1);
        due(16, "liked 3 more", of(town + "keeps liked=3;").whom(0), 2);
        due(16, "a proud one 5", of(town + "keeps liked=5;").whom(0), 1);
        due(16, "within the term", of(town + "term 1;").whom(0), -1);
        due(17, "by another term", of(town + "term 1;").terms(0), 2);
        due(17, "12 at most", of("man a plain skill 1 field 0 want 0;man b plain skill 1 field 0 want 0;consul a;danger d size 12 grows 0;danger e size 13 grows 0;").terms(0), 12);
        due(17, "13", of("man a plain skill 1 field 0 want 0;man b plain skill 1 field 0 want 0;consul a;danger d size 12 grows 0;danger e size 13 grows 0;").terms(1), -1);
    }

    private static void headings() {
        PloughCall x = of("man a plain skill 0 field 0 want 0;man b plain skill 4 field 0 want 0;man c plain skill 3 field 0 want 0;consul a;"
            + "danger d size 8 grows 1;danger e size 3 grows 5;danger f size 2 grows 0;term 2;");
        due(18, "nobody has it", x.headings(1, 0), -2);
        x.name(0, 1);
        // of d: 4 8 2; of e: 9 0 2; of f: 9 8 0
        due(18, "headings(1, 0)", x.headings(1, 0), 11);
        due(18, "headings(1, 1)", x.headings(1, 1), 1);
        // e then d: 9 0 2, then 5 0 2
        due(18, "headings(2, 0)", x.headings(2, 0), 7);
        due(18, "headings(2, 1)", x.headings(2, 1), 1);
        due(18, "headings(2, 2)", x.headings(2, 2), 0);
        // the term is over behind the second: d grows in the third, whatever it is of: the first row
        due(18, "headings(3, 0)", x.headings(3, 0), 8);
        due(18, "headings(3, 1)", x.headings(3, 1), 1);
        due(18, "headings(3, 2)", x.headings(3, 2), 0);
        due(18, "headings(3, 3)", x.headings(3, 3), 0);
        due(18, "headings(5, 0)", x.headings(5, 0), 10);
        due(18, "all stays", x.count(4), 0);
        x.master(2);
        // of d: 8 - 5; of e: 0: 9 0 2
        due(18, "with a master", x.headings(1, 0), 11);
        due(18, "with a master", x.headings(2, 0), 6);
        due(18, "headings(0, 0)", x.headings(0, 0), -2);
        due(18, "headings(6, 0)", x.headings(6, 0), -2);
        due(18, "headings(2, 3)", x.headings(2, 3), -2);
        due(18, "headings(2, -1)", x.headings(2, -1), -2);
        for (int edge : EDGES) {
            due(18, "headings of an edge", x.headings(edge, 0), -2);
            due(18, "headings of an edge", x.headings(1, edge), -2);
        }
        PloughCall y = of("man a plain skill 0 field 0 want 0;man b plain skill 4 field 0 want 0;consul a;");
        y.name(0, 1);
        due(18, "no dangers", y.headings(1, 0), -2);
        PloughCall z = of("man a plain skill 0 field 0 want 0;man b plain skill 4 field 0 want 0;consul a;danger d size 4 grows 0;danger e size 5 grows 0;");
        z.name(0, 1);
        // d d e leaves 1, d e e leaves 0, and e e d, found later
        due(18, "0 is less than 1", z.headings(3, 0), 0);
        due(18, "the first row", z.headings(3, 1) * 100 + z.headings(3, 2) * 10 + z.headings(3, 3), 11);
        due(18, "the first row", z.headings(5, 3) * 100 + z.headings(5, 4) * 10 + z.headings(5, 5), 11);
    }

    private static void sharing() {
        // d: a 2, b 5; e: a 3, b 10: a for e, b for d is 8; a for d, b for e is 12
        PloughCall x = of("man a plain skill 5 field 0 want 0;man b plain skill 2 field 0 want 0;man z plain skill 0 field 0 want 0;"
            + "danger d size 10 grows 0;danger e size 15 grows 0;");
        due(19, "all(-1)", x.all(-1), 3 + 5);
        due(19, "all(0)", x.all(0), 1);
        due(19, "all(1)", x.all(1), 0);
        due(19, "all(2)", x.all(2), -2);
        for (int edge : EDGES) {
            due(19, "all of an edge", x.all(edge), -2);
        }
        PloughCall y = of("man a plain skill 5 field 0 want 0;man b plain skill 5 field 0 want 0;consul a;"
            + "danger d size 5 grows 0;danger e size 5 grows 0;danger f size 5 grows 0;");
        due(19, "too few men", y.all(-1), -2);
        due(19, "too few men", y.all(0), -2);
        y.name(0, 1);
        y.month(1);
        due(19, "two are left", y.all(-1), 2);
        due(19, "the first row", y.all(0), 0);
        due(19, "it is 0", y.all(1), -1);
        due(19, "the first row", y.all(2), 1);
        due(19, "too few men for small ones", of("man a plain skill 5 field 0 want 0;danger d size 1 grows 0;danger e size 1 grows 0;").all(-1), -2);
        due(19, "99 for more", of("man z plain skill 0 field 0 want 0;danger d size 1 grows 0;").all(-1), 99);
        due(19, "no dangers", of("man z plain skill 0 field 0 want 0;").all(-1), 0);
    }

    private static void waiting() {
        PloughCall x = of("man a plain skill 0 field 0 want 0;man b plain skill 9 field 0 want 0;consul a;danger d size 90 grows 4;danger e size 9 grows 1;danger f size 5 grows 0;");
        // 104, 109, 114, 117 (99 13 5), ..
        due(20, "waits(104)", x.waits(104), 0);
        due(20, "waits(105)", x.waits(105), 1);
        due(20, "waits(114)", x.waits(114), 2);
        due(20, "waits(115)", x.waits(115), 3);
        due(20, "waits(116)", x.waits(116), 3);
        due(20, "waits(203)", x.waits(203), 90);
        due(20, "waits(204)", x.waits(204), -1);
        due(20, "waits(1)", x.waits(1), 0);
        due(20, "waits(0)", x.waits(0), -1);
        due(20, "waits(496)", x.waits(496), -1);
        x.name(0, 1);
        due(20, "whoever has it", x.waits(105), 1);
        x.month(1);
        due(20, "what is 0 does not grow", x.waits(105), -1);
        due(20, "what is 0 does not grow", x.waits(104), 2);
        PloughCall y = of("danger d size 99 grows 0;danger e size 99 grows 0;danger f size 99 grows 0;danger g size 99 grows 0;danger h size 99 grows 0;");
        due(20, "waits(495)", y.waits(495), 0);
        PloughCall z = of("danger d size 1 grows 1;danger e size 99 grows 0;");
        due(20, "98 months", z.waits(198), 98);
        PloughCall w = of("danger d size 1 grows 1;danger e size 1 grows 1;");
        due(20, "not within 99", w.waits(199), -1);
        for (int edge : EDGES) {
            due(20, "waits of an edge", x.waits(edge), -1);
        }
    }

    private static void chances() {
        PloughCall x = of("man a plain skill 5 field 0 want 0;man b idle skill 9 field 0 want 0;consul a;danger d size 10 grows 3;danger e size 5 grows 5;danger f size 99 grows 9;");
        due(21, "sure", chance(x, 0, 0, 0, 2), 1000000);
        due(21, "too soon", chance(x, 0, 0, 0, 1), 0);
        due(21, "never", chance(x, 0, 0, 10, 12), 0);
        // d in two months: none may be lost
        due(21, "0.7 * 0.7", chance(x, 0, 0, 3, 2), 490000);
        // in three: W W .; one loss makes 13, three of 5 are wanted
        due(21, "0.49", chance(x, 0, 0, 3, 3), 490000);
        // in four: W W (0.49), and L W W W, W L W W: 5 + 3 = 8: W W; L first: 13: W W W
        due(21, "0.49 + 2 * 0.3 * 0.343", chance(x, 0, 0, 3, 4), 490000 + 2 * 102900);
        // e: W 0.4; L W W 0.6 * 0.16
        due(21, "0.4", chance(x, 0, 1, 6, 2), 400000);
        due(21, "0.4 + 0.6 * 0.16", chance(x, 0, 1, 6, 3), 496000);
        // b does nothing in the first month, lost or not: e stays 5 (W) or is 10 (L)
        due(21, "idle", chance(x, 1, 1, 5, 1), 0);
        due(21, "idle", chance(x, 1, 1, 5, 2), 250000);
        // cut: W within 7 months by 0.1: 1 - 0.9 ^ 7 = 0.5217031
        PloughCall y = of("man a plain skill 1 field 0 want 0;man b plain skill 9 field 0 want 0;consul a;danger d size 1 grows 0;danger e size 1 grows 1;");
        due(21, "cut", chance(y, 0, 0, 9, 7), 521703);
        // 1 - 0.9 ^ 12 = 0.717570463519
        due(21, "cut", chance(y, 0, 0, 9, 12), 717570);
        // 99 at most: lost months leave f at 99; by 99 less all goes
        PloughCall z = of("man a plain skill 1 field 0 want 0;danger f size 99 grows 9;works 99;");
        due(21, "99 at most", chance(z, 0, 0, 5, 2), 750000);
        y.name(0, 1);
        y.month(0);
        due(21, "it is 0", chance(y, 0, 0, 10, 1), 1000000);
        due(21, "odds 11", chance(x, 0, 0, 11, 1), THROWN);
        due(21, "odds -1", chance(x, 0, 0, -1, 1), THROWN);
        due(21, "months 0", chance(x, 0, 0, 1, 0), THROWN);
        due(21, "months 13", chance(x, 0, 0, 1, 13), THROWN);
        due(21, "no man", chance(x, 2, 0, 1, 1), THROWN);
        due(21, "no danger", chance(x, 0, 3, 1, 1), THROWN);
        for (int edge : EDGES) {
            due(21, "edges", chance(x, edge, 0, 1, 1), THROWN);
            due(21, "edges", chance(x, 0, edge, 1, 1), THROWN);
            due(21, "edges", chance(x, 0, 0, edge, 1), THROWN);
            due(21, "edges", chance(x, 0, 0, 1, edge), THROWN);
        }
    }

    private static void decrees() {
        PloughCall x = of("decree a;decree b on a;decree c;decree d on b c;decree e on d;decree f;");
        due(22, "falls(0)", x.falls(0), 0);
        due(22, "falls(1)", x.falls(1), 1 + 2 + 8 + 16);
        due(22, "falls(2)", x.falls(2), 2 + 8 + 16);
        due(22, "falls(4)", x.falls(4), 4 + 8 + 16);
        due(22, "falls(32)", x.falls(32), 32);
        due(22, "falls(63)", x.falls(63), 63);
        due(22, "falls(64)", x.falls(64), -1);
        due(22, "falls(-1)", x.falls(-1), -1);
        due(23, "anew(1, 4)", x.anew(1, 4), 1 + 2 + 8 + 16);
        due(23, "anew(4, 4)", x.anew(4, 4), 4 + 8 + 16);
        due(23, "anew(4, 1)", x.anew(4, 1), 0);
        due(23, "anew(2, 3)", x.anew(2, 3), 2 + 8);
        due(23, "anew(63, 0)", x.anew(63, 0), 1);
        due(23, "anew(63, 5)", x.anew(63, 5), 32);
        due(23, "anew(0, 5)", x.anew(0, 5), 0);
        due(23, "anew(0, 6)", x.anew(0, 6), -1);
        due(23, "anew(0, -1)", x.anew(0, -1), -1);
        due(23, "anew(64, 0)", x.anew(64, 0), -1);
        for (int edge : EDGES) {
            due(22, "falls of an edge", x.falls(edge), -1);
            due(23, "anew of an edge", x.anew(edge, 0), -1);
            due(23, "anew of an edge", x.anew(0, edge), -1);
        }
    }

    private static void telling() {
        PloughCall x = of("man a plain skill 3 field 0 want 0;man b idle skill 3 field 0 want 0;man c poor skill 4 field 0 want 0;man d plain skill 3 field 0 want 0;consul a;"
            + "danger p size 12 grows 5;danger q size 3 grows 0;");
        due(25, "all", x.who(), 15);
        // p: a, d 9 6 3 0; b 12 9 6 3 0; c 8 4 0
        due(26, "when(0)", x.when(0), 1);
        due(26, "when(1)", x.when(1), 1);
        due(26, "when(2)", x.when(2), -1);
        due(26, "when(-1)", x.when(-1), -1);
        x.name(0, 2);
        x.month(0);
        due(24, "tell", x.tell(0, 2, 6), true);
        due(25, "from its told size", x.who(), 9);
        due(26, "none parts a and d", x.when(0), -1);
        due(24, "tell", x.tell(0, 12, 0), true);
        due(25, "0 from when it is 0", x.who(), 9);
        due(24, "tell", x.tell(0, 0, 12), true);
        due(24, "tell", x.tell(0, 0, 99), true);
        due(25, "nobody", x.who(), 0);
        due(26, "nobody", x.when(0), -1);
        due(24, "no danger", x.tell(2, 0, 0), false);
        due(24, "no danger", x.tell(-1, 0, 0), false);
        due(24, "13 months", x.tell(0, 13, 0), false);
        due(24, "-1 months", x.tell(0, -1, 0), false);
        due(24, "size 100", x.tell(0, 0, 100), false);
        due(24, "size -1", x.tell(0, 0, -1), false);
        for (int edge : EDGES) {
            due(24, "tell of an edge", x.tell(edge, 0, 0) || x.tell(0, edge, 0) || x.tell(0, 0, edge), false);
            due(26, "when of an edge", x.when(edge), -1);
        }
        due(24, "count(11)", x.count(11), 4);
        for (int i = 4; i < 8; i++) {
            due(24, "tell", x.tell(1, 1, 0), true);
        }
        due(24, "8 are told", x.tell(1, 1, 0), false);
        due(24, "count(11)", x.count(11), 8);
        // the greatest number of like ones: behind 1: 8 8 9 9: 2; behind 2: 4 4 6 6 .. the first of equal ones; e parts three
        PloughCall y = of("man a plain skill 4 field 0 want 0;man b plain skill 4 field 0 want 0;man c plain skill 3 field 0 want 0;man d idle skill 4 field 0 want 0;"
            + "danger p size 12 grows 5;works able*(passed=2)+(passed=1)*(able=3);");
        due(26, "behind 12 alone", of("man a plain skill 1 field 0 want 0;man b plain skill 2 field 0 want 0;danger p size 9 grows 0;works able*(passed=11);").when(0), 12);
        due(26, "behind 13 alone", of("man a plain skill 1 field 0 want 0;man b plain skill 2 field 0 want 0;danger p size 9 grows 0;works able*(passed=12);").when(0), -1);
        // behind 1: all 12; behind 2: c 11; behind 3: a b d 8, c 8
        due(26, "when", y.when(0), 2);
        due(24, "tell", y.tell(0, 2, 12), true);
        due(25, "who", y.who(), 11);
        due(26, "none", y.when(0), -1);
    }

    private static void resting() {
        PloughCall x = new PloughCall();
        due(27, "two", rests(x, 4, 6, 1, -1), 2);
        due(27, "the first", rests(x, 4, 6, 1, 0), 1);
        due(27, "the second", rests(x, 4, 6, 1, 1), 2);
        due(27, "no third", rests(x, 4, 6, 1, 2), THROWN);
        due(27, "both strike", rests(x, 1, 1, 0, -1), 4);
        for (int i = 0; i < 4; i++) {
            due(27, "each", rests(x, 1, 1, 0, i), i);
        }
        due(27, "waiting alone", rests(x, 5, 4, 1, -1), 1);
        due(27, "waiting alone", rests(x, 5, 4, 1, 0), 0);
        due(27, "waiting or striking", rests(x, 5, 4, 0, -1), 2);
        due(27, "waiting or striking", rests(x, 5, 4, 0, 1), 3);
        due(27, "three", rests(x, 0, 9, 0, -1), 3);
        due(27, "three", rests(x, 0, 9, 0, 2), 3);
        due(27, "10", rests(x, 10, 0, 0, -1), THROWN);
        due(27, "10", rests(x, 0, 10, 0, -1), THROWN);
        due(27, "10", rests(x, 0, 0, 10, -1), THROWN);
        due(27, "-1", rests(x, -1, 0, 0, -1), THROWN);
        due(27, "what -2", rests(x, 0, 0, 0, -2), THROWN);
        due(27, "what 4", rests(x, 0, 0, 0, 4), THROWN);
        for (int edge : EDGES) {
            due(27, "edges", rests(x, edge, 0, 0, -1), THROWN);
            due(27, "edges", rests(x, 0, edge, 0, -1), THROWN);
            due(27, "edges", rests(x, 0, 0, edge, -1), THROWN);
            due(27, "edges", rests(x, 0, 0, 0, edge), THROWN);
        }
    }

    private static void ages() {
        // draws by seed 0: g 12345, 1406932606, 654583775, 1449466924, 229283573, ..; / 65536: 0, 21468, 9988, 22117, 3498, ..
        PloughCall x = of("man a plain skill 4 field 30 want 9;man b plain skill 5 field 30 want 9;consul a;danger d size 5 grows 1;danger e size 1 grows 2;term 2;");
        // 0 % 2 and 21468 % 2: a names a: that can't be; 9988 % 2: a month of d: 6, 3
        due(28, "one month", x.ages(0, 1, 0), 0);
        due(28, "fields", x.ages(0, 1, 2), 60);
        due(28, "nobody keeps it", x.ages(0, 1, 1), 0);
        due(28, "all is as ahead", x.count(4), 0);
        due(28, "all is as ahead", x.count(9), 6);
        x.name(0, 1);
        // b has it: 0 % 2: d: 0, e 3, b is liked 3; 21468 % 2: d, b keeps it: 9 < 9 + 3; 9988 % 2: d
        due(28, "came to 0", x.ages(0, 3, 0), 1);
        due(28, "months kept", x.ages(0, 3, 1), 2);
        due(28, "fields", x.ages(0, 3, 2), 45);
        due(28, "has it still", x.count(7), 2);
        due(28, "nothing to undo of it", x.count(12), 1);
        due(28, "seed -1", x.ages(-1, 1, 0), -1);
        due(28, "seed 10000", x.ages(10000, 1, 0), -1);
        due(28, "seed 9999", x.ages(9999, 1, 1), 0);
        due(28, "months 0", x.ages(0, 0, 0), -1);
        due(28, "months 100", x.ages(0, 100, 0), -1);
        due(28, "months 99", x.ages(0, 99, 2), 30);
        due(28, "what 3", x.ages(0, 1, 3), -1);
        due(28, "what -1", x.ages(0, 1, -1), -1);
        for (int edge : EDGES) {
            due(28, "edges", x.ages(edge, 1, 0), -1);
            due(28, "edges", x.ages(0, edge, 0), -1);
            due(28, "edges", x.ages(0, 1, edge), -1);
        }
        due(28, "no dangers: no months", of("man a plain skill 4 field 30 want 9;man b plain skill 5 field 30 want 9;consul a;consul b;").ages(1, 99, 2), 60);
        due(28, "no men", of("danger d size 5 grows 1;").ages(1, 99, 0), 0);
    }

    private static void marking() {
        PloughCall x = of(SMALL);
        due(29, "none such", x.mark(-1, false) || x.mark(4, false) || x.mark(-1, true) || x.mark(4, true), false);
        for (int edge : EDGES) {
            due(29, "edges", x.mark(edge, false) || x.mark(edge, true), false);
        }
        due(29, "nothing on it", x.mark(3, true), false);
        x.name(2, 1);
        x.master(3);
        x.month(0);
        x.tell(0, 1, 3);
        months(x, "lay;month war;");
        due(29, "laid", x.mark(3, false), true);
        due(29, "can still be undone", x.count(12), 3);
        feed(x, "ab");
        x.disobey(0, 1);
        x.lay();
        x.tell(0, 2, 3);
        feed(x, ";");
        due(29, "gone back to", x.mark(3, true), true);
        due(29, "the tape stays", x.count(13), 3);
        x.months();
        int[] due = {4, 3, 0, 5, 1, 1, 3, 2, 0, 16, 2, 1, 0, 0, 3};
        for (int what = 0; what < due.length; what++) {
            due(29, "count(" + what + ")", x.count(what), due[what]);
        }
        due(29, "no undo", x.undo(), false);
        due(29, "liked", x.man(3, 4), 0);
        due(29, "the MONTHS", x.judged(0), 0);
        due(29, "what is told", x.who(), 2);
        x.month(1);
        due(29, "again", x.mark(3, true), true);
        due(29, "month", x.count(4), 1);
        x.month(1);
        due(29, "laid anew", x.mark(3, false), true);
        x.month(1);
        due(29, "again", x.mark(3, true), true);
        due(29, "month", x.count(4), 2);
        due(29, "another one", x.mark(0, true), false);
        due(29, "city", city(x, SMALL), 0);
        due(29, "no mark", x.mark(3, true), false);
    }

    private static void counting() {
        PloughCall x = of(SMALL + "decree u;decree v on u;");
        x.name(2, 3);
        x.master(1);
        x.month(1);
        x.tell(0, 0, 0);
        months(x, "lay;lay;lay;");
        feed(x, "seven..");
        int[] due = {4, 3, 2, 5, 1, 3, 1, 2, 0, 16, 3, 1, 3, 7, 3};
        for (int what = 0; what < due.length; what++) {
            due(30, "count(" + what + ")", x.count(what), due[what]);
        }
        due(30, "count(15)", x.count(15), -1);
        due(30, "count(-1)", x.count(-1), -1);
        for (int edge : EDGES) {
            due(30, "edges", x.count(edge), -1);
        }
    }

    public static void main(String[] args) {
        newObject();
        feeding();
        cities();
        cityFaults();
        names();
        lawFaults();
        monthsReading();
        menAndDangers();
        naming();
        passing();
        keeping();
        laws();
        layingAndUndoing();
        judging();
        asking();
        headings();
        sharing();
        waiting();
        chances();
        decrees();
        telling();
        resting();
        ages();
        marking();
        counting();
        System.out.println(wrong == 0 ? "all " + checked + " answers are as due" : wrong + " answers are not as due");
        if (wrong != 0) {
            System.exit(1);
        }
    }
}
