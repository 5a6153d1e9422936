/** Promises 18 to 22: pages, trays, the pocket, heat, the plan. */
public final class SetTest {
    private static final Due D = new Due("SetTest");

    public static void main(String[] args) {
        pages();
        trays();
        pockets();
        heats();
        plainPlans();
        order();
        rests();
        switches();
        warming();
        least();
        noPlan();
        longest();
        D.end();
    }

    private static void planned(PaperWay x, int... acts) {
        D.due("plan(-1)", x.plan(-1), acts.length);
        for (int k = 0; k < acts.length; k++) {
            D.due("plan(" + k + ")", x.plan(k), acts[k]);
        }
        D.due("plan behind it", x.plan(acts.length), -1);
        D.due("plan(-2)", x.plan(-2), -1);
    }

    private static void unplanned(PaperWay x) {
        D.due("no plan", x.plan(-1), -1);
        D.due("no act", x.plan(0), -1);
        D.due("no act", x.plan(1), -1);
    }

    private static void pages() {
        PaperWay x = new PaperWay();
        D.due("kind 4", x.page(4, false), -3);
        D.due("kind -1", x.page(-1, true), -3);
        for (int i = 0; i < 8; i++) {
            D.due("page " + i, x.page(i % 4, i % 2 == 0), i);
        }
        D.due("a ninth", x.page(0, false), -4);
        D.due("-3 ahead of -4", x.page(4, false), -3);
        D.due("8 pages", x.count(9), 8);
        x.out(7);
        D.due("-4 ahead of -5", x.page(0, false), -4);
        PaperWay y = new PaperWay();
        y.page(3, true);
        y.out(0);
        D.due("the STACK isn't empty", y.page(0, true), -5);
        D.due("-3 ahead of -5", y.page(9, true), -3);
        D.due("one page", y.count(9), 1);
        y.empty();
        D.due("it is empty now", y.page(0, true), 1);
    }

    private static void trays() {
        PaperWay x = new PaperWay();
        D.due("tray 4", x.tray(4, 0, true), false);
        D.due("tray -1", x.tray(-1, 0, true), false);
        D.due("kind 4", x.tray(0, 4, true), false);
        D.due("kind -1", x.tray(0, -1, true), false);
        D.due("least", x.tray(Integer.MIN_VALUE, 0, true), false);
        x.page(2, false);
        unplanned(x);
        D.due("tray 3", x.tray(3, 2, true), true);
        planned(x, 5);
        D.due("refused: as it was", x.tray(3, 7, false), false);
        planned(x, 5);
        D.due("tray 0", x.tray(0, 2, true), true);
        planned(x, 2);
        D.due("no paper", x.tray(0, 2, false), true);
        planned(x, 5);
        D.due("another kind", x.tray(3, 1, true), true);
        unplanned(x);
    }

    private static void pockets() {
        PaperWay x = new PaperWay();
        D.due("hold 0", x.pocket(0, 0), false);
        D.due("hold 4", x.pocket(4, 0), false);
        D.due("rest -1", x.pocket(1, -1), false);
        D.due("rest 5", x.pocket(1, 5), false);
        D.due("hold 3, rest 4", x.pocket(3, 4), true);
        x.tray(0, 0, true);
        x.page(0, true);
        planned(x, 2, 0, 0, 0, 0, 1);
        D.due("refused", x.pocket(0, 0), false);
        D.due("as it was", x.plan(-1), 6);
        D.due("hold 1, rest 0", x.pocket(1, 0), true);
        planned(x, 2, 1);
    }

    private static void heats() {
        PaperWay x = new PaperWay();
        D.due("first -1", x.heat(-1, 0, 0, 1), false);
        D.due("first 31", x.heat(31, 0, 0, 1), false);
        D.due("need -1", x.heat(0, -1, 0, 1), false);
        D.due("need 31", x.heat(0, 31, 0, 1), false);
        D.due("cost -1", x.heat(0, 0, -1, 1), false);
        D.due("cost 11", x.heat(0, 0, 11, 1), false);
        D.due("gain 0", x.heat(0, 0, 0, 0), false);
        D.due("gain 11", x.heat(0, 0, 0, 11), false);
        x.tray(0, 0, true);
        x.page(0, false);
        planned(x, 2);
        D.due("least numbers", x.heat(0, 0, 0, 1), true);
        planned(x, 2);
        D.due("greatest numbers", x.heat(30, 30, 10, 10), true);
        planned(x, 2);
        D.due("from 0 on", x.heat(0, 30, 10, 10), true);
        planned(x, 0, 0, 0, 2);
        D.due("refused", x.heat(0, 31, 10, 10), false);
        planned(x, 0, 0, 0, 2);
    }

    private static void plainPlans() {
        PaperWay x = new PaperWay();
        planned(x);
        x.tray(1, 0, true);
        x.page(0, false);
        x.page(0, false);
        x.page(0, true);
        x.page(0, false);
        planned(x, 3, 3, 3, 1, 3);
        // a page told later, and the STACK, which plays no part
        x.page(0, false);
        x.out(0);
        x.copies(5);
        planned(x, 3, 3, 3, 1, 3, 3);
    }

    private static void order() {
        PaperWay x = new PaperWay();
        x.tray(0, 0, true);
        x.pocket(3, 1);
        x.page(0, true);
        x.page(0, true);
        x.page(0, false);
        // both into the pocket; one-sided ones want it empty
        planned(x, 2, 2, 1, 1, 2);
        x.pocket(1, 1);
        planned(x, 2, 0, 1, 2, 0, 1, 2);
        x.pocket(2, 3);
        planned(x, 2, 2, 0, 0, 1, 1, 2);
    }

    private static void rests() {
        for (int rest = 0; rest <= 4; rest++) {
            PaperWay x = new PaperWay();
            x.tray(0, 0, true);
            x.pocket(3, rest);
            x.page(0, true);
            x.page(0, true);
            x.page(0, true);
            // three in a row, then all come back as soon as the first has lain long enough
            int slots = rest <= 2 ? 6 : 6 + rest - 2;
            D.due("rest " + rest, x.plan(-1), slots);
            x.pocket(1, rest);
            D.due("hold 1, rest " + rest, x.plan(-1), 3 * (2 + rest));
        }
    }

    private static void switches() {
        PaperWay x = new PaperWay();
        x.tray(0, 0, true);
        x.tray(1, 1, true);
        x.page(0, false);
        x.page(1, false);
        x.page(1, false);
        x.page(0, false);
        planned(x, 2, 0, 3, 3, 0, 2);
        // tray 2 has both kinds at no time, but tray 1 another one's kind
        x.tray(1, 0, true);
        x.tray(2, 1, true);
        planned(x, 2, 0, 4, 4, 0, 2);
        // the STOP must be right ahead: a BACK between doesn't do
        PaperWay y = new PaperWay();
        y.tray(0, 0, true);
        y.tray(1, 1, true);
        y.page(0, true);
        y.page(1, false);
        y.pocket(1, 1);
        planned(y, 2, 0, 1, 0, 3);
        PaperWay z = new PaperWay();
        z.tray(0, 0, true);
        z.tray(1, 1, true);
        z.page(0, true);
        z.page(1, true);
        z.pocket(1, 0);
        planned(z, 2, 1, 0, 3, 1);
        z.pocket(2, 0);
        planned(z, 2, 0, 3, 1, 1);
    }

    private static void warming() {
        PaperWay x = new PaperWay();
        x.tray(0, 0, true);
        x.page(0, false);
        x.page(0, false);
        x.page(0, false);
        x.heat(10, 8, 4, 3);
        // two stops are wanted, as early as can be: 13, 16, then 12, 8, 4
        planned(x, 0, 0, 2, 2, 2);
        x.heat(10, 10, 10, 10);
        planned(x, 0, 0, 2, 2, 2);
        x.heat(10, 10, 10, 1);
        D.due("ten stops between two", x.plan(-1), 3 + 2 * 10);
        // 30 at most: stops ahead of the first help nothing; behind it 25, 30, 20, 25
        x.heat(30, 25, 10, 5);
        planned(x, 2, 0, 0, 2, 0, 2);
        // 0 at least is left
        x.heat(3, 2, 10, 2);
        planned(x, 2, 0, 2, 0, 2);
        // BACK wants heat, too
        PaperWay y = new PaperWay();
        y.tray(0, 0, true);
        y.page(0, true);
        y.heat(5, 5, 1, 1);
        planned(y, 0, 2, 1);
        y.heat(5, 5, 3, 3);
        planned(y, 0, 2, 1);
        y.heat(5, 5, 5, 1);
        planned(y, 0, 0, 0, 0, 0, 2, 1);
    }

    private static void least() {
        // of like ones the least first act: trays alike, the first of them; STOP, BACK ahead of FEED
        PaperWay x = new PaperWay();
        x.tray(1, 0, true);
        x.tray(2, 0, true);
        x.page(0, false);
        x.page(0, false);
        planned(x, 3, 3);
        x.tray(0, 1, true);
        x.tray(1, 1, true);
        planned(x, 4, 4);
        PaperWay y = new PaperWay();
        y.tray(0, 0, true);
        y.page(0, true);
        y.page(0, true);
        y.page(0, true);
        y.pocket(3, 0);
        // in out in out in out: the least of all that take six
        planned(y, 2, 1, 2, 1, 2, 1);
        y.pocket(3, 1);
        planned(y, 2, 2, 1, 2, 1, 1);
    }

    private static void noPlan() {
        PaperWay x = new PaperWay();
        x.tray(0, 0, true);
        x.page(0, false);
        x.page(1, false);
        unplanned(x);
        x.tray(1, 1, true);
        planned(x, 2, 0, 3);
        x.tray(0, 0, false);
        unplanned(x);
    }

    private static void longest() {
        PaperWay x = new PaperWay();
        x.tray(0, 0, true);
        for (int i = 0; i < 8; i++) {
            x.page(0, true);
        }
        x.heat(0, 30, 10, 1);
        D.due("30 stops, 16 acts, 15 times 10 stops", x.plan(-1), 30 + 16 + 150);
        D.due("the first", x.plan(0), 0);
        D.due("the 31st", x.plan(30), 2);
        D.due("the last", x.plan(195), 1);
        D.due("none behind", x.plan(196), -1);
        x.pocket(3, 4);
        D.due("rests in between", x.plan(-1), 196);
        x.heat(0, 30, 0, 1);
        D.due("16 acts and 4 stops for rest", x.plan(-1), 30 + 20);
    }
}
