/** Promises 18 to 29, sentence by sentence: pages, trays, plans, copies, the stack, what is paid (terms 4). */
public final class SentencesOfSetTest {
    private static final Sentences S = new Sentences("SentencesOfSetTest");
    private static final int LEAST = Integer.MIN_VALUE;
    private static final int MOST = Integer.MAX_VALUE;

    public static void main(String[] args) {
        page();
        tray();
        pocket();
        heat();
        plan();
        stops();
        backs();
        feeds();
        oneSided();
        twoSided();
        needs();
        otherTray();
        least();
        noPlan();
        copies();
        out();
        empty();
        again();
        lack();
        kept();
        mostKept();
        leastPlaces();
        earliest();
        whole();
        pay();
        S.end(18, 29);
    }

    /** A set with paper of KIND 0 in TRAY 0: b for a two-sided PAGE, a for one of one side. */
    private static PaperWay set(String pages) {
        PaperWay x = new PaperWay();
        x.tray(0, 0, true);
        for (int i = 0; i < pages.length(); i++) {
            S.due("page", x.page(0, pages.charAt(i) == 'b'), i);
        }
        return x;
    }

    private static void planned(String when, PaperWay x, int... acts) {
        S.due(when + ": SLOTS", x.plan(-1), acts.length);
        for (int k = 0; k < acts.length; k++) {
            S.due(when + ": act " + k, x.plan(k), acts[k]);
        }
        S.due(when + ": behind it", x.plan(acts.length), -1);
    }

    private static void page() {
        S.promise(18, "A PAGE more: its number");
        PaperWay x = new PaperWay();
        S.due("the first", x.page(0, false), 0);
        S.due("the second", x.page(3, true), 1);
        S.due("PAGES", x.count(9), 2);
        PaperWay w = set("a");
        S.due("asked ahead", w.again(0) * 10 + w.lack(1), 9);
        S.due("one more", w.page(0, false), 1);
        S.due("it is WANTED, too", w.again(0) * 10 + w.lack(1), 21);
        S.promise(18, "-3: KIND");
        for (int kind : new int[] {-1, 4, LEAST, MOST}) {
            S.due("KIND " + kind, x.page(kind, false), -3);
        }
        S.due("none more", x.count(9), 2);
        S.terms(4, "PAGES, at most 8, numbered as they come: a KIND (0 to 3), one side or two");
        for (int i = 2; i < 8; i++) {
            S.due("page", x.page(i % 4, false), i);
        }
        S.promise(18, "-4: there are 8");
        S.due("a ninth", x.page(0, true), -4);
        S.due("-3 ahead of it", x.page(4, true), -3);
        S.due("8", x.count(9), 8);
        x.out(0);
        S.due("-4 ahead of -5", x.page(0, true), -4);
        S.promise(18, "-5: the STACK isn't empty");
        PaperWay y = set("a");
        y.out(0);
        S.due("one there", y.page(0, false), -5);
        S.due("-3 ahead of it", y.page(-1, false), -3);
        S.due("none more", y.count(9), 1);
        y.empty();
        S.due("empty", y.page(0, false), 1);
    }

    private static void tray() {
        S.promise(19, "A TRAY has a KIND, and paper or not: true");
        PaperWay x = new PaperWay();
        x.page(2, false);
        for (int t = 0; t < 4; t++) {
            S.due("TRAY " + t, x.tray(t, 2, true), true);
            planned("from TRAY " + t, x, 2 + t);
            S.due("no paper", x.tray(t, 2, false), true);
            S.due("no plan", x.plan(-1), -1);
            S.due("of another KIND", x.tray(t, t == 3 ? 1 : 3, true), true);
            S.due("no plan", x.plan(-1), -1);
        }
        S.promise(19, "false: none such");
        x.tray(1, 2, true);
        for (int v : new int[] {-1, 4, LEAST, MOST}) {
            S.due("TRAY " + v, x.tray(v, 2, true), false);
            S.due("KIND " + v, x.tray(1, v, false), false);
        }
        planned("TRAY 1 as it was", x, 3);
        S.terms(4, "TRAYS 0 to 3: a KIND and whether there is paper (KIND 0 without paper at first)");
        PaperWay y = new PaperWay();
        y.page(0, false);
        S.due("no paper at first", y.plan(-1), -1);
    }

    private static void pocket() {
        S.promise(20, "HOLD and REST: true");
        PaperWay x = set("bb");
        S.terms(4, "HOLD (1 to 3; 1 at first) and REST (0 to 4; 0 at first) of the POCKET");
        planned("at first", x, 2, 1, 2, 1);
        S.due("hold 1, rest 4", x.pocket(1, 4), true);
        planned("hold 1, rest 4", x, 2, 0, 0, 0, 0, 1, 2, 0, 0, 0, 0, 1);
        S.due("hold 3, rest 4", x.pocket(3, 4), true);
        planned("hold 3, rest 4", x, 2, 2, 0, 0, 0, 1, 1);
        S.due("hold 3, rest 0", x.pocket(3, 0), true);
        planned("hold 3, rest 0", x, 2, 1, 2, 1);
        S.due("hold 2, rest 1", x.pocket(2, 1), true);
        planned("hold 2, rest 1", x, 2, 2, 1, 1);
        S.promise(20, "false: numbers that can't be");
        for (int v : new int[] {-1, 5, LEAST, MOST}) {
            S.due("hold " + v, x.pocket(v, 4), false);
            S.due("rest " + v, x.pocket(1, v), false);
        }
        S.due("hold 0", x.pocket(0, 0), false);
        S.due("hold 4", x.pocket(4, 0), false);
        planned("as it was", x, 2, 2, 1, 1);
    }

    private static void heat() {
        S.promise(21, "HEAT at first, NEED, COST, GAIN: true");
        S.terms(4, "HEAT at first (0 to 30; 30), NEED (0 to 30; 0), COST (0 to 10; 0), GAIN (1 to 10; 1)");
        PaperWay x = set("aa");
        planned("at first", x, 2, 2);
        S.due("0, 0, 0, 1", x.heat(0, 0, 0, 1), true);
        planned("0, 0, 0, 1", x, 2, 2);
        S.due("30, 30, 10, 10", x.heat(30, 30, 10, 10), true);
        planned("30, 30, 10, 10", x, 2, 0, 2);
        S.due("30, 30, 10, 1", x.heat(30, 30, 10, 1), true);
        S.due("ten STOPS between", x.plan(-1), 12);
        PaperWay y = set("aa");
        y.heat(30, 30, 0, 1);
        planned("COST 0", y, 2, 2);
        S.promise(21, "false: numbers that can't be");
        y.heat(30, 30, 10, 10);
        for (int v : new int[] {-1, 31, LEAST, MOST}) {
            S.due("first " + v, y.heat(v, 0, 0, 1), false);
            S.due("need " + v, y.heat(0, v, 0, 1), false);
            S.due("cost " + v, y.heat(0, 0, v, 1), false);
            S.due("gain " + v, y.heat(0, 0, 0, v), false);
        }
        S.due("cost 11", y.heat(0, 0, 11, 1), false);
        S.due("gain 0", y.heat(0, 0, 0, 0), false);
        S.due("gain 11", y.heat(0, 0, 0, 11), false);
        planned("as it was", y, 2, 0, 2);
        PaperWay z = set("aa");
        z.page(0, false);
        z.heat(1, 0, 0, 1);
        z.heat(1, 0, 0, 11);
        planned("NEED 0 wants none", z, 2, 2, 2);
    }

    private static void plan() {
        S.promise(22, "LEAST, k NONE: how many SLOTS, or the k-th act");
        planned("no PAGES", new PaperWay());
        PaperWay x = set("aba");
        planned("three", x, 2, 2, 1, 2);
        S.promise(22, "NONE: there is none (of either)");
        for (int k : new int[] {4, 5, -2, LEAST, MOST}) {
            S.due("act " + k, x.plan(k), -1);
        }
        x.tray(0, 1, true);
        for (int k : new int[] {-1, 0, 1, 4, LEAST, MOST}) {
            S.due("no PLAN, " + k, x.plan(k), -1);
        }
    }

    private static void stops() {
        S.terms(4, "0 STOP: HEAT grows by GAIN (30 at most)");
        PaperWay x = set("aa");
        x.heat(0, 9, 9, 3);
        planned("three for each", x, 0, 0, 0, 0, 0, 0, 2, 2);
        x.heat(0, 10, 9, 3);
        planned("twelve, eighteen", x, 0, 0, 0, 0, 0, 0, 0, 2, 2);
        // 30 and 10 more would be enough for three behind one STOP ahead of all
        PaperWay y = set("aaa");
        y.heat(30, 20, 10, 10);
        planned("30 at most", y, 2, 0, 2, 2);
        y.heat(29, 20, 10, 1);
        S.due("29, 19, 20, 10, 20", y.plan(-1), 3 + 1 + 10);
    }

    private static void backs() {
        S.terms(4, "1 BACK: the PAGE longest in the POCKET, if it has lain REST SLOTS there, comes out");
        S.terms(4, "(A PAGE fed in SLOT k has lain 0 SLOTS in the next one, 1 in the one behind that ..)");
        for (int rest = 0; rest <= 4; rest++) {
            PaperWay x = set("b");
            x.pocket(1, rest);
            int[] acts = new int[2 + rest];
            acts[0] = 2;
            acts[1 + rest] = 1;
            planned("REST " + rest, x, acts);
        }
        PaperWay y = set("bbb");
        y.pocket(3, 2);
        planned("the longest there first, each when it may", y, 2, 2, 2, 1, 1, 1);
        y.pocket(3, 3);
        planned("SLOTS of BACK count, too", y, 2, 2, 2, 0, 1, 1, 1);
        y.pocket(2, 3);
        planned("HOLD 2", y, 2, 0, 0, 2, 1, 2, 0, 0, 1, 1);
    }

    private static void feeds() {
        S.terms(4, "2 and t FEED: the next PAGE from TRAY t, which has paper of its KIND");
        PaperWay x = new PaperWay();
        int[] kinds = {3, 1, 0, 2};
        for (int p = 0; p < 4; p++) {
            x.page(kinds[p], false);
        }
        for (int t = 0; t < 4; t++) {
            x.tray(t, t, true);
        }
        planned("each from its own", x, 5, 0, 3, 0, 2, 0, 4);
        x.tray(2, 3, true);
        S.due("none of KIND 2", x.plan(-1), -1);
        x.tray(1, 2, true);
        S.due("none of KIND 1", x.plan(-1), -1);
        x.tray(3, 1, true);
        planned("in other TRAYS", x, 4, 0, 5, 0, 2, 0, 3);
    }

    private static void oneSided() {
        S.terms(4, "one-sided ones come out at once, if the POCKET is empty");
        planned("ahead of a two-sided one", set("ab"), 2, 2, 1);
        planned("behind it", set("ba"), 2, 1, 2);
        PaperWay x = set("bba");
        x.pocket(3, 1);
        planned("behind both", x, 2, 2, 1, 1, 2);
        PaperWay y = set("bab");
        y.pocket(3, 2);
        planned("not past one there", y, 2, 0, 0, 1, 2, 2, 0, 0, 1);
        S.terms(4, "All PAGES are out behind it");
        planned("one must come back", set("b"), 2, 1);
    }

    private static void twoSided() {
        S.terms(4, "two-sided ones go into it, if fewer than HOLD lie there");
        PaperWay x = set("bbbb");
        x.pocket(1, 1);
        planned("HOLD 1", x, 2, 0, 1, 2, 0, 1, 2, 0, 1, 2, 0, 1);
        x.pocket(2, 1);
        planned("HOLD 2", x, 2, 2, 1, 1, 2, 2, 1, 1);
        x.pocket(2, 2);
        planned("HOLD 2, REST 2", x, 2, 0, 2, 1, 2, 1, 2, 0, 1, 1);
        x.pocket(3, 2);
        planned("HOLD 3, REST 2", x, 2, 2, 2, 1, 2, 1, 1, 1);
    }

    private static void needs() {
        S.terms(4, "BACK, FEED want HEAT of NEED or more, and take COST (0 at least is left)");
        PaperWay x = set("aa");
        x.heat(10, 10, 0, 1);
        planned("just enough", x, 2, 2);
        x.heat(9, 10, 0, 1);
        planned("one less", x, 0, 2, 2);
        x.heat(10, 8, 2, 1);
        planned("10, 8", x, 2, 2);
        x.heat(10, 9, 2, 1);
        planned("11, 9", x, 0, 2, 2);
        PaperWay y = set("b");
        y.heat(5, 5, 1, 1);
        planned("BACK wants it, too: 6, 5", y, 0, 2, 1);
        y.heat(6, 5, 1, 1);
        planned("6, 5", y, 2, 1);
        PaperWay z = set("bb");
        z.heat(7, 5, 1, 1);
        planned("BACK takes it, too: 8, 7, 6, 5", z, 0, 2, 1, 2, 1);
        PaperWay w = set("aa");
        w.heat(1, 1, 1, 1);
        planned("NEED 1: 2, 1, 0", w, 0, 2, 2);
        w.heat(0, 1, 1, 2);
        planned("NEED 1: 0, 2, 1, 0", w, 0, 2, 2);
        w.heat(2, 1, 1, 1);
        planned("NEED 1: 2, 1, 0", w, 2, 2);
        w.heat(1, 1, 2, 1);
        planned("NEED 1: 1, 0, 1", w, 2, 0, 2);
        PaperWay v = set("aa");
        v.heat(3, 2, 10, 2);
        planned("0 at least is left: 3, 0, 2", v, 2, 0, 2);
    }

    private static void otherTray() {
        S.terms(4, "FEED from another TRAY than the FEED ahead wants a STOP right ahead");
        PaperWay x = new PaperWay();
        x.tray(0, 0, true);
        x.tray(1, 1, true);
        x.page(0, false);
        x.page(1, false);
        planned("two TRAYS", x, 2, 0, 3);
        PaperWay y = new PaperWay();
        y.tray(0, 0, true);
        y.tray(1, 0, true);
        y.page(0, false);
        y.page(0, false);
        planned("the same TRAY again", y, 2, 2);
        // the first needs none; a BACK between isn't a STOP, and a STOP ahead of it isn't right ahead
        PaperWay z = new PaperWay();
        z.tray(0, 0, true);
        z.tray(1, 1, true);
        z.page(0, true);
        z.page(1, true);
        planned("BACK, then STOP", z, 2, 1, 0, 3, 1);
        z.pocket(1, 1);
        planned("STOP for REST, BACK, STOP for the TRAY", z, 2, 0, 1, 0, 3, 0, 1);
        z.pocket(2, 1);
        planned("one STOP for both", z, 2, 0, 3, 1, 1);
        // the TRAY of the FEED ahead is known, whatever lies between
        PaperWay v = new PaperWay();
        v.tray(0, 0, true);
        v.tray(2, 1, true);
        v.page(0, false);
        v.page(1, true);
        v.page(1, false);
        v.page(0, false);
        planned("there and back", v, 2, 0, 4, 1, 4, 0, 2);
    }

    private static void least() {
        S.terms(4, "LEAST: the fewest SLOTS, of like ones the first row by acts");
        PaperWay x = new PaperWay();
        x.page(0, false);
        x.page(0, false);
        x.tray(3, 0, true);
        planned("the one", x, 5, 5);
        x.tray(2, 0, true);
        planned("the lesser TRAY", x, 4, 4);
        x.tray(1, 0, true);
        planned("the lesser TRAY", x, 3, 3);
        x.tray(0, 0, true);
        planned("the least TRAY", x, 2, 2);
        PaperWay y = set("bbb");
        y.pocket(3, 0);
        planned("BACK ahead of FEED", y, 2, 1, 2, 1, 2, 1);
        PaperWay z = set("aa");
        z.heat(10, 5, 5, 5);
        planned("no STOP, if none is wanted", z, 2, 2);
        z.heat(5, 5, 5, 5);
        planned("STOP as early as can be", z, 0, 2, 2);
        // a second TRAY of one KIND: the one that the next PAGE can come from, too
        PaperWay v = new PaperWay();
        v.tray(0, 0, true);
        v.tray(1, 0, true);
        v.page(0, false);
        v.page(0, false);
        v.page(0, false);
        planned("no TRAY is changed for nothing", v, 2, 2, 2);
    }

    private static void noPlan() {
        S.promise(22, "NONE: there is none (of either)");
        PaperWay x = new PaperWay();
        x.page(0, false);
        S.due("no paper", x.plan(-1), -1);
        x.tray(0, 1, true);
        S.due("of another KIND", x.plan(-1), -1);
        x.tray(3, 0, true);
        planned("there is", x, 5);
        x.page(1, false);
        planned("and for both", x, 5, 0, 2);
        x.page(2, false);
        S.due("not for the third", x.plan(-1), -1);
        PaperWay y = set("bbbbbbbb");
        y.heat(0, 30, 10, 1);
        y.pocket(3, 4);
        S.due("the longest: 30, 16 and 15 times 10", y.plan(-1), 196);
        S.due("its last act", y.plan(195), 1);
        S.due("none behind", y.plan(196), -1);
    }

    private static void copies() {
        S.promise(23, "COPIES: what they were");
        PaperWay x = new PaperWay();
        S.terms(4, "COPIES (1 to 40; 1 at first)");
        S.due("at first", x.copies(40), 1);
        S.due("40", x.copies(1), 40);
        S.due("1", x.copies(7), 1);
        S.promise(23, "-3: the number");
        for (int n : new int[] {0, -1, 41, LEAST, MOST}) {
            S.due("copies " + n, x.copies(n), -3);
        }
        S.due("as it was", x.count(10), 7);
        PaperWay y = set("ab");
        y.out(1);
        for (int n = 1; n <= 40; n += 3) {
            y.copies(n);
            S.due("LACKING of " + n, y.again(0), 2 * n - 1);
            S.due("the last place of " + n, y.kept(2 * n - 1), n == 1 ? 0 : -1);
            S.due("the last that LACKS of " + n, y.lack(2 * n - 2), n == 1 ? 0 : 2 * n - 1);
        }
    }

    private static void out() {
        S.promise(24, "A PAGE comes onto the STACK: how many there are");
        PaperWay x = set("ab");
        S.due("the first", x.out(1), 1);
        S.due("the second", x.out(1), 2);
        S.promise(24, "-2: no such PAGE");
        for (int p : new int[] {-1, 2, 8, LEAST, MOST}) {
            S.due("PAGE " + p, x.out(p), -2);
        }
        S.due("none came", x.count(11), 2);
        S.due("no PAGES", new PaperWay().out(0), -2);
        S.terms(4, "STACK: PAGES that came out, at most 60, as told");
        for (int i = 3; i <= 60; i++) {
            S.due("out", x.out(i % 2), i);
        }
        S.promise(24, "-4: there are 60");
        S.due("a 61st", x.out(0), -4);
        S.due("-2 ahead of it", x.out(2), -2);
        S.due("60", x.count(11), 60);
        PaperWay y = set("ab");
        S.due("asked ahead", y.again(0), 2);
        y.out(1);
        S.due("one less LACKS", y.again(0), 1);
        y.out(0);
        S.due("no more", y.again(0) * 10 + y.again(1), 11);
        y.out(1);
        S.due("paired anew", y.kept(0) * 10 + y.kept(1), 12);
    }

    private static void empty() {
        S.promise(25, "The STACK is empty: how many there were");
        PaperWay x = set("a");
        S.due("none", x.empty(), 0);
        for (int i = 0; i < 60; i++) {
            x.out(0);
        }
        S.due("60", x.empty(), 60);
        S.due("empty", x.count(11), 0);
        S.due("none", x.empty(), 0);
        S.due("all LACK", x.again(0), 1);
        S.due("the first again", x.out(0), 1);
        S.due("asked ahead", x.again(0), 0);
        x.empty();
        S.due("asked behind", x.again(0), 1);
        S.due("asked behind", x.kept(0), -1);
    }

    private static void stack(PaperWay x, int... pages) {
        x.empty();
        for (int i = 0; i < pages.length; i++) {
            S.due("out", x.out(pages[i]), i + 1);
        }
    }

    /** What each place of WANTED is paired with, and so what is LACKING. */
    private static void paired(String when, PaperWay x, int stacked, int... paired) {
        int lacking = 0;
        for (int w = 0; w < paired.length; w++) {
            S.due(when + ": kept(" + w + ")", x.kept(w), paired[w]);
            if (paired[w] == -1) {
                S.due(when + ": lack(" + lacking + ")", x.lack(lacking), w);
                lacking++;
            }
        }
        S.due(when + ": lack behind", x.lack(lacking), -1);
        S.due(when + ": again(0)", x.again(0), lacking);
        S.due(when + ": again(1)", x.again(1), stacked - paired.length + lacking);
    }

    private static void again() {
        S.promise(26, "What 0: how many are LACKING, 1: how many of the STACK aren't KEPT, 2: how many copies are WHOLE");
        PaperWay x = set("abb");
        x.copies(3);
        S.due("all", x.again(0), 9);
        S.due("none", x.again(1), 0);
        S.due("none", x.again(2), 0);
        stack(x, 0, 1, 1, 2, 1, 2, 0);
        // 0 1 2 of the first, 1 2 of the second, 0 of the third; one 1 too many
        S.due("three", x.again(0), 3);
        S.due("one", x.again(1), 1);
        S.due("one", x.again(2), 1);
        S.promise(26, "NONE for others");
        for (int what : new int[] {-1, 3, LEAST, MOST}) {
            S.due("what " + what, x.again(what), -1);
        }
    }

    private static void lack() {
        S.promise(27, "The i-th place of WANTED that is LACKING; NONE: not so many");
        PaperWay x = set("aaaaaaaa");
        x.copies(40);
        for (int i = 0; i < 320; i += 29) {
            S.due("lack " + i, x.lack(i), i);
        }
        S.due("the last", x.lack(319), 319);
        for (int i : new int[] {320, -1, LEAST, MOST}) {
            S.due("lack " + i, x.lack(i), -1);
        }
        x.copies(1);
        stack(x, 0, 2, 3, 5, 7);
        S.due("1", x.lack(0), 1);
        S.due("4", x.lack(1), 4);
        S.due("6", x.lack(2), 6);
        S.due("not so many", x.lack(3), -1);
        stack(x, 0, 1, 2, 3, 4, 5, 6, 7);
        S.due("none", x.lack(0), -1);
        S.terms(4, "LACKING: places of WANTED that aren't KEPT");
        S.due("how many", x.again(0), 0);
        S.due("of nothing", new PaperWay().lack(0), -1);
    }

    private static void kept() {
        S.promise(28, "Which of the STACK (from 0 on) a place of WANTED is paired with");
        PaperWay x = set("aaa");
        x.copies(2);
        stack(x, 1, 0, 2, 2);
        paired("1 0 2 2", x, 4, 1, -1, 2, -1, -1, 3);
        S.promise(28, "NONE: it is LACKING, no such place");
        for (int place : new int[] {-1, 6, 7, LEAST, MOST}) {
            S.due("place " + place, x.kept(place), -1);
        }
        S.due("LACKING", x.kept(1), -1);
        S.due("of nothing", new PaperWay().kept(0), -1);
        x.copies(1);
        S.due("a place of the second copy no more", x.kept(3), -1);
        S.terms(4, "WANTED: COPIES (1 to 40; 1 at first) times all PAGES in order");
        PaperWay y = set("aaaaaaaa");
        y.copies(40);
        for (int i = 0; i < 60; i++) {
            y.out(7);
        }
        S.due("the last of 320", y.kept(319), 39);
        S.due("behind it", y.kept(320), -1);
        S.due("20 too many", y.again(1), 20);
    }

    private static void mostKept() {
        S.terms(4, "KEPT: the most of the STACK that stands in this order in WANTED, too");
        PaperWay x = set("aaaa");
        stack(x, 3, 0, 1, 2);
        paired("three, not one", x, 4, 1, 2, 3, -1);
        stack(x, 3, 2, 1, 0);
        paired("one", x, 4, 3, -1, -1, -1);
        stack(x, 2, 3, 0, 1);
        paired("two of two", x, 4, 2, 3, -1, -1);
        stack(x, 1, 2, 3, 0);
        paired("three", x, 4, -1, 0, 1, 2);
        x.copies(2);
        stack(x, 2, 3, 0, 1);
        paired("four over two copies", x, 4, -1, -1, 0, 1, 2, 3, -1, -1);
        stack(x, 3, 2, 1, 0);
        paired("two", x, 4, -1, 2, -1, -1, 3, -1, -1, -1);
        stack(x);
        paired("of nothing", x, 0, -1, -1, -1, -1, -1, -1, -1, -1);
        PaperWay z = set("aaa");
        stack(z, 1, 2, 0, 0);
        paired("1 and 2, not 0 once", z, 4, -1, 0, 1);
        stack(z, 2, 0, 2, 0, 0);
        paired("0 and 2, not 2 ahead of 0", z, 5, 1, -1, 2);
        PaperWay y = set("aaaaaaaa");
        y.copies(8);
        int[] all = new int[64];
        for (int i = 0; i < 64; i++) {
            all[i] = i < 60 ? i : -1;
            S.due("out", y.out(i % 8), i < 60 ? i + 1 : -4);
        }
        paired("all 60", y, 60, all);
    }

    private static void leastPlaces() {
        S.terms(4, "of like ones that whose places in WANTED are least, the first one first");
        PaperWay x = set("aa");
        x.copies(3);
        stack(x, 1);
        paired("the first 1", x, 1, -1, 0, -1, -1, -1, -1);
        stack(x, 0, 0);
        paired("0, 2", x, 2, 0, -1, 1, -1, -1, -1);
        stack(x, 1, 1, 0);
        paired("1, 3, 4", x, 3, -1, 0, -1, 1, 2, -1);
        // of two alike: places 0 and 3 with 1, 3 .. the first one first
        PaperWay y = set("aaa");
        y.copies(1);
        stack(y, 1, 2, 0, 1);
        paired("0, 1, not 1, 2", y, 4, 2, 3, -1);
        stack(y, 2, 0, 2);
        paired("0, 2", y, 3, 1, -1, 2);
        stack(y, 1, 0, 2);
        paired("0, 2, not 1, 2", y, 3, 1, -1, 2);
    }

    private static void earliest() {
        S.terms(4, "each paired with the earliest in the STACK that can be");
        PaperWay x = set("aa");
        stack(x, 0, 0, 1, 1);
        paired("the first of each", x, 4, 0, 2);
        stack(x, 1, 0, 0, 1, 1);
        paired("the first 1 can't be", x, 5, 1, 3);
        PaperWay y = set("a");
        y.copies(3);
        stack(y, 0, 0, 0, 0);
        paired("three of four", y, 4, 0, 1, 2);
    }

    private static void whole() {
        S.terms(4, "A copy is WHOLE, if all its PAGES are KEPT");
        PaperWay x = set("aaa");
        x.copies(3);
        stack(x, 0, 1, 2);
        S.due("the first", x.again(2), 1);
        stack(x, 0, 1, 2, 1, 2, 0, 1, 2);
        S.due("the first and the third", x.again(2), 2);
        stack(x, 0, 1, 0, 1, 0, 1);
        S.due("none", x.again(2), 0);
        stack(x, 1, 2, 0, 1, 2, 0);
        S.due("the second", x.again(2), 1);
        stack(x, 0, 1, 2, 0, 1, 2, 0, 1, 2);
        S.due("all", x.again(2), 3);
        S.due("nothing LACKS", x.again(0), 0);
    }

    private static void pay() {
        S.terms(4, "PAY: each PAGE of the STACK has 1 side or 2; the first n sides cost a, each more b");
        PaperWay x = set("ab");
        S.due("of nothing", x.pay(1000, 100, 100), 0);
        stack(x, 0, 1, 1);
        // five sides
        int[][] due = {{0, 7, 2, 10}, {1, 7, 2, 15}, {2, 7, 2, 20}, {4, 7, 2, 30}, {5, 7, 2, 35}, {6, 7, 2, 35},
            {1000, 7, 2, 35}, {3, 0, 0, 0}, {3, 100, 100, 500}, {3, 0, 100, 200}, {3, 100, 0, 300}};
        for (int[] d : due) {
            S.due("pay(" + d[0] + ", " + d[1] + ", " + d[2] + ")", x.pay(d[0], d[1], d[2]), d[3]);
        }
        for (int i = 3; i < 60; i++) {
            x.out(1);
        }
        S.due("119 sides", x.pay(118, 0, 1), 1);
        S.due("and no more", x.pay(119, 100, 1), 11900);
        S.promise(29, "PAY for n (0 to 1000), a, b (0 to 100 each). NONE: others");
        for (int v : new int[] {-1, 1001, LEAST, MOST}) {
            S.due("n " + v, x.pay(v, 1, 1), -1);
        }
        for (int v : new int[] {-1, 101, LEAST, MOST}) {
            S.due("a " + v, x.pay(1, v, 1), -1);
            S.due("b " + v, x.pay(1, 1, v), -1);
        }
    }
}
