import java.util.ArrayList;
import java.util.HashMap;
import java.util.List;
import java.util.Map;

/** Promises 22, 26, 27, 28 and 31 against slow and plain models of sections 4 and 5. */
public final class SetModelTest {
    private static final Due D = new Due("SetModelTest");

    public static void main(String[] args) {
        Due.Dice dice = new Due.Dice(5);
        int planned = 0;
        for (int run = 0; run < 1500; run++) {
            planned += plan(dice, run) ? 1 : 0;
        }
        D.due("both planned and not", planned > 500 && planned < 1490, true);
        for (int run = 0; run < 3000; run++) {
            keep(dice, run, 12, 8);
        }
        for (int run = 0; run < 60; run++) {
            keepByTable(dice, run);
        }
        for (int run = 0; run < 1200; run++) {
            serve(dice, run);
        }
        D.end();
    }

    // ---- the plan: all states from the start, the way to the end of each, then the least act at each

    private static int[] kinds;
    private static boolean[] both;
    private static int[] trayKind;
    private static boolean[] trayPaper;
    private static int hold;
    private static int rest;
    private static int need;
    private static int cost;
    private static int gain;

    private static final class State {
        int fed;
        int heat;
        int tray = -1;
        boolean stopped;
        /** Slots that the pages in the pocket have lain, the longest there first. */
        List<Integer> lain = new ArrayList<>();

        String name() {
            return fed + " " + heat + " " + tray + " " + stopped + " " + lain;
        }
    }

    /** The state behind an act; null if it can't be. */
    private static State act(State s, int act) {
        State t = new State();
        t.fed = s.fed;
        t.heat = s.heat;
        t.tray = s.tray;
        t.lain.addAll(s.lain);
        if (act == 0) {
            t.heat = Math.min(30, s.heat + gain);
        } else {
            if (s.heat < need) {
                return null;
            }
            t.heat = Math.max(0, s.heat - cost);
        }
        int enters = 0;
        if (act == 1) {
            if (s.lain.isEmpty() || s.lain.get(0) < rest) {
                return null;
            }
            t.lain.remove(0);
        } else if (act >= 2) {
            int tray = act - 2;
            boolean gives = s.fed < kinds.length && trayPaper[tray] && trayKind[tray] == kinds[s.fed];
            if (!gives || s.tray != -1 && s.tray != tray && !s.stopped) {
                return null;
            }
            if (both[s.fed] ? s.lain.size() >= hold : !s.lain.isEmpty()) {
                return null;
            }
            enters = both[s.fed] ? 1 : 0;
            t.fed++;
            t.tray = tray;
        }
        for (int i = 0; i < t.lain.size(); i++) {
            // more than 4 slots are like 4, as no REST is longer
            t.lain.set(i, Math.min(4, t.lain.get(i) + 1));
        }
        if (enters == 1) {
            t.lain.add(0);
        }
        t.stopped = act == 0;
        return t;
    }

    private static boolean isEnd(State s) {
        return s.fed == kinds.length && s.lain.isEmpty();
    }

    private static boolean plan(Due.Dice dice, int run) {
        PaperWay x = new PaperWay();
        int n = dice.between(1, 5);
        kinds = new int[n];
        both = new boolean[n];
        int ofKinds = dice.between(1, 3);
        for (int i = 0; i < n; i++) {
            kinds[i] = dice.roll(ofKinds);
            both[i] = dice.roll(3) != 0;
            x.page(kinds[i], both[i]);
        }
        trayKind = new int[4];
        trayPaper = new boolean[4];
        for (int t = 0; t < 4; t++) {
            trayKind[t] = t < 3 && dice.roll(8) != 0 ? t % ofKinds : dice.roll(4);
            trayPaper[t] = dice.roll(6) != 0;
            x.tray(t, trayKind[t], trayPaper[t]);
        }
        hold = dice.between(1, 3);
        rest = dice.between(0, 4);
        x.pocket(hold, rest);
        State start = new State();
        start.heat = dice.between(0, 30);
        need = dice.roll(3) == 0 ? 0 : dice.between(0, 30);
        cost = dice.roll(3) == 0 ? 0 : dice.between(0, 10);
        gain = dice.between(2, 10);
        x.heat(start.heat, need, cost, gain);
        List<Integer> due = leastActs(start);
        String call = "run " + run + " plan(";
        D.due(call + "-1)", x.plan(-1), due == null ? -1 : due.size());
        for (int k = 0; due != null && k <= due.size(); k++) {
            D.due(call + k + ")", x.plan(k), k < due.size() ? due.get(k) : -1);
        }
        return due != null;
    }

    private static List<Integer> leastActs(State start) {
        Map<String, Integer> number = new HashMap<>();
        List<State> states = new ArrayList<>();
        List<List<Integer>> ahead = new ArrayList<>();
        number.put(start.name(), 0);
        states.add(start);
        ahead.add(new ArrayList<>());
        for (int i = 0; i < states.size(); i++) {
            for (int a = 0; a < 6; a++) {
                State t = act(states.get(i), a);
                if (t != null) {
                    Integer known = number.get(t.name());
                    if (known == null) {
                        known = states.size();
                        number.put(t.name(), known);
                        states.add(t);
                        ahead.add(new ArrayList<>());
                    }
                    ahead.get(known).add(i);
                }
            }
        }
        int[] far = new int[states.size()];
        java.util.Arrays.fill(far, Integer.MAX_VALUE);
        List<Integer> row = new ArrayList<>();
        for (int i = 0; i < far.length; i++) {
            if (isEnd(states.get(i))) {
                far[i] = 0;
                row.add(i);
            }
        }
        for (int k = 0; k < row.size(); k++) {
            for (int from : ahead.get(row.get(k))) {
                if (far[from] == Integer.MAX_VALUE) {
                    far[from] = far[row.get(k)] + 1;
                    row.add(from);
                }
            }
        }
        if (far[0] == Integer.MAX_VALUE) {
            return null;
        }
        List<Integer> acts = new ArrayList<>();
        int at = 0;
        while (far[at] > 0) {
            for (int a = 0; a < 6; a++) {
                State t = act(states.get(at), a);
                if (t != null && far[number.get(t.name())] == far[at] - 1) {
                    acts.add(a);
                    at = number.get(t.name());
                    break;
                }
            }
        }
        return acts;
    }

    // ---- what is kept: every set of places of WANTED

    private static void keep(Due.Dice dice, int run, int mostWanted, int mostStack) {
        int pages = dice.between(1, 4);
        int copies = dice.between(1, Math.max(1, mostWanted / pages));
        PaperWay x = new PaperWay();
        for (int i = 0; i < pages; i++) {
            x.page(0, false);
        }
        x.copies(copies);
        int[] stack = new int[dice.roll(mostStack + 1)];
        for (int i = 0; i < stack.length; i++) {
            stack[i] = dice.roll(pages);
            x.out(stack[i]);
        }
        int wanted = pages * copies;
        int best = 0;
        for (int set = 0; set < 1 << wanted; set++) {
            if (pairs(set, wanted, pages, stack) != null && goesAhead(set, best, wanted)) {
                best = set;
            }
        }
        compareKept(x, "run " + run + ": ", pairs(best, wanted, pages, stack), pages, stack.length);
    }

    /** More places, or as many and the first that differs less. */
    private static boolean goesAhead(int set, int other, int wanted) {
        int more = Integer.bitCount(set) - Integer.bitCount(other);
        if (more != 0) {
            return more > 0;
        }
        for (int w = 0; w < wanted; w++) {
            int mine = set >> w & 1;
            if (mine != (other >> w & 1)) {
                return mine == 1;
            }
        }
        return false;
    }

    private static int[] pairs(int set, int wanted, int pages, int[] stack) {
        int[] paired = new int[wanted];
        int s = 0;
        for (int w = 0; w < wanted; w++) {
            paired[w] = -1;
            if ((set >> w & 1) == 1) {
                while (s < stack.length && stack[s] != w % pages) {
                    s++;
                }
                if (s == stack.length) {
                    return null;
                }
                paired[w] = s++;
            }
        }
        return paired;
    }

    private static void compareKept(PaperWay x, String at, int[] paired, int pages, int stacked) {
        int lacking = 0;
        int whole = 0;
        int inCopy = 0;
        for (int w = 0; w < paired.length; w++) {
            inCopy = w % pages == 0 ? 0 : inCopy;
            D.due(at + "kept(" + w + ")", x.kept(w), paired[w]);
            if (paired[w] == -1) {
                D.due(at + "lack(" + lacking + ")", x.lack(lacking), w);
                lacking++;
            } else {
                inCopy++;
                whole += inCopy == pages ? 1 : 0;
            }
        }
        D.due(at + "lack", x.lack(lacking), -1);
        D.due(at + "again(0)", x.again(0), lacking);
        D.due(at + "again(1)", x.again(1), stacked - (paired.length - lacking));
        D.due(at + "again(2)", x.again(2), whole);
    }

    /** Large ones: a table of the most that is kept of each rest of both. */
    private static void keepByTable(Due.Dice dice, int run) {
        int pages = dice.between(1, 8);
        int wanted = Math.min(200, pages * dice.between(1, 40)) / pages * pages;
        PaperWay x = new PaperWay();
        for (int i = 0; i < pages; i++) {
            x.page(0, false);
        }
        x.copies(wanted / pages);
        int n = dice.between(20, 60);
        int[] stack = new int[n];
        for (int i = 0; i < n; i++) {
            stack[i] = dice.roll(3) == 0 ? dice.roll(pages) : i % pages;
            x.out(stack[i]);
        }
        int[][] most = new int[n + 1][wanted + 1];
        for (int s = n - 1; s >= 0; s--) {
            for (int w = wanted - 1; w >= 0; w--) {
                most[s][w] = Math.max(most[s + 1][w], most[s][w + 1]);
                if (stack[s] == w % pages) {
                    most[s][w] = Math.max(most[s][w], 1 + most[s + 1][w + 1]);
                }
            }
        }
        int[] paired = new int[wanted];
        int from = 0;
        for (int w = 0; w < wanted; w++) {
            paired[w] = -1;
            int left = most[from][w];
            for (int s = from; s < n && left > 0; s++) {
                if (stack[s] == w % pages && 1 + most[s + 1][w + 1] == left) {
                    paired[w] = s;
                    from = s + 1;
                    break;
                }
            }
        }
        compareKept(x, "table " + run + ": ", paired, pages, n);
    }

    // ---- service: every set of visits, and of these every set of new ones for each part

    private static void serve(Due.Dice dice, int run) {
        PaperWay x = new PaperWay();
        int n = dice.between(1, 6);
        // small numbers, so that many totals are alike
        boolean small = dice.roll(2) == 0;
        int price = small ? dice.roll(4) : dice.roll(30);
        int parts = dice.between(0, 4);
        int[] costs = new int[parts];
        int[] weeks = new int[parts];
        int[] ages = new int[parts];
        for (int p = 0; p < parts; p++) {
            costs[p] = small ? dice.roll(4) : dice.roll(20);
            weeks[p] = dice.between(1, 5);
            ages[p] = dice.roll(6);
            x.part(2 * p + 1, costs[p], weeks[p], ages[p]);
        }
        int total = Integer.MAX_VALUE;
        int visits = 0;
        int renewed = 0;
        for (int mask = 0; mask < 1 << n; mask++) {
            int sum = price * Integer.bitCount(mask);
            int made = 0;
            boolean can = true;
            for (int p = 0; p < parts; p++) {
                int fewest = 99;
                for (int set = 0; set < 1 << n; set++) {
                    if ((set & ~mask) == 0 && runs(set, n, weeks[p], ages[p])) {
                        fewest = Math.min(fewest, Integer.bitCount(set));
                    }
                }
                can = can && fewest < 99;
                sum += fewest * costs[p];
                made += fewest;
            }
            boolean better = sum < total || sum == total && Integer.bitCount(mask) < Integer.bitCount(visits);
            if (can && better) {
                total = sum;
                visits = mask;
                renewed = made;
            }
        }
        String call = "run " + run + " service(" + n + ", " + price;
        D.due(call + ", 0)", x.service(n, price, 0), total);
        D.due(call + ", 1)", x.service(n, price, 1), visits);
        D.due(call + ", 2)", x.service(n, price, 2), renewed);
    }

    private static boolean runs(int set, int n, int weeks, int ageFirst) {
        int age = ageFirst;
        for (int w = 0; w < n; w++) {
            if ((set >> w & 1) == 1) {
                age = 0;
            }
            age++;
            if (age > weeks) {
                return false;
            }
        }
        return true;
    }
}
