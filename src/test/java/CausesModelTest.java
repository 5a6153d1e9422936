import java.util.ArrayList;
import java.util.List;

/** Promises 15, 16, 17 against what sheets laid and ticked on other objects show. */
public final class CausesModelTest {
    private static final Due D = new Due("CausesModelTest");

    public static void main(String[] args) {
        Due.Dice dice = new Due.Dice(11);
        int[] found = new int[4];
        for (int run = 0; run < 260; run++) {
            found[explained(dice, run) + 1]++;
        }
        System.out.println(found[0] + " unexplained, " + found[1] + " by none, " + found[2] + " by one, " + found[3]
                + " by two");
        D.due("all kinds of answers", found[0] > 10 && found[1] > 5 && found[2] > 30 && found[3] > 30, true);
        int[] seldom = new int[62];
        for (int run = 0; run < 600; run++) {
            seldom[foretold(dice, run) + 1]++;
        }
        D.due("foretold first, later, never", seldom[2] > 20 && seldom[0] > 20 && 600 - seldom[2] - seldom[0] > 100,
                true);
        for (int run = 0; run < 400; run++) {
            crease(dice, run);
        }
        D.end();
    }

    private static String text;
    private static int rollers;
    private static int[] eye;
    private static int length;

    private static void makeWay(Due.Dice dice, int most) {
        length = dice.between(40, 70);
        StringBuilder s = new StringBuilder("way " + length + ";");
        rollers = 0;
        int place = dice.between(1, 12);
        while (place < length && rollers < most) {
            s.append("roller " + place + " speed " + dice.between(3, 9) + ";");
            place += dice.between(5, 16);
            rollers++;
        }
        if (dice.roll(3) != 0 && place < length + 16 && rollers < most && place - 16 < length - 1) {
            int last = length - 1;
            if (s.indexOf("roller " + last + " ") < 0) {
                s.append("roller " + last + " speed 9;");
                rollers++;
            }
        }
        eye = new int[dice.between(1, 5)];
        int at = 0;
        for (int e = 0; e < eye.length; e++) {
            at = Math.min(length - eye.length + e + 1, at + dice.between(1, 20));
            eye[e] = at;
            s.append("eye " + at + ";");
        }
        if (dice.roll(3) == 0) {
            s.append("damp " + dice.roll(91) + ";");
        }
        text = s.toString();
    }

    private static boolean exists(int cause) {
        if (cause < 30) {
            return cause % 10 < rollers;
        }
        if (cause < 49) {
            return cause - 30 < eye.length;
        }
        return cause == 49 || cause - 50 < eye.length && eye[cause - 50] + 2 <= length;
    }

    /** From, to of the first passing of each eye, with these causes. */
    private static int[] seenWith(int sheet, int... causes) {
        PaperWay x = Due.way(text);
        int steps = sheet;
        int[] wear = new int[10];
        for (int c : causes) {
            if (c >= 0 && c < 20) {
                wear[c % 10] = Math.max(wear[c % 10], c < 10 ? 200 : 500);
                x.set(c % 10, 0, wear[c % 10]);
            } else if (c >= 20 && c < 30) {
                x.set(c - 20, 1, 3);
            } else if (c == 49) {
                steps += 10;
            } else if (c >= 50) {
                x.corner(eye[c - 50] + 2, true);
            }
        }
        x.lay(steps, false);
        x.tick(120);
        int[] seen = new int[2 * eye.length];
        for (int e = 0; e < eye.length; e++) {
            boolean blind = false;
            for (int c : causes) {
                blind = blind || c == 30 + e;
            }
            boolean passed = !blind && x.passing(e, 0, 0) >= 0;
            seen[2 * e] = passed ? x.passing(e, 0, 0) : -1;
            seen[2 * e + 1] = passed ? x.passing(e, 0, 1) : -1;
        }
        return seen;
    }

    private static boolean agree(int[] observed, int[] seen) {
        for (int i = 0; i < observed.length; i++) {
            if (observed[i] != -2 && observed[i] != seen[i]) {
                return false;
            }
        }
        return true;
    }

    private static List<Integer> causes() {
        List<Integer> all = new ArrayList<>();
        for (int c = 0; c < 69; c++) {
            if (exists(c)) {
                all.add(c);
            }
        }
        return all;
    }

    /** The fewest causes, the least of like ones; null if there are none. */
    private static int[] fewest(int[] observed, int sheet) {
        if (agree(observed, seenWith(sheet))) {
            return new int[0];
        }
        List<Integer> all = causes();
        for (int a : all) {
            if (agree(observed, seenWith(sheet, a))) {
                return new int[] {a};
            }
        }
        for (int a : all) {
            for (int b : all) {
                if (b > a && agree(observed, seenWith(sheet, a, b))) {
                    return new int[] {a, b};
                }
            }
        }
        return null;
    }

    private static int explained(Due.Dice dice, int run) {
        makeWay(dice, 4);
        int sheet = dice.between(10, 50);
        List<Integer> all = causes();
        int[] made = new int[dice.roll(4)];
        for (int i = 0; i < made.length; i++) {
            made[i] = all.get(dice.roll(all.size()));
        }
        int[] observed = seenWith(sheet, made);
        for (int e = 0; e < eye.length; e++) {
            if (dice.roll(4) == 0) {
                observed[2 * e] = -2;
                observed[2 * e + 1] = -2;
            } else if (dice.roll(16) == 0 && observed[2 * e + 1] > observed[2 * e] + 1) {
                observed[2 * e + 1]--;
            }
        }
        PaperWay x = Due.way(text);
        // what is told first and forgotten, or told anew, plays no part
        x.saw(0, 77, -1);
        x.forget();
        for (int e = 0; e < eye.length; e++) {
            if (observed[2 * e] != -2) {
                x.saw(e, 9, 11);
                D.due("saw", x.saw(e, observed[2 * e], observed[2 * e + 1]), true);
            }
        }
        int[] due = fewest(observed, sheet);
        String at = "run " + run + " " + text + " sheet " + sheet + ": ";
        D.due(at + "explain(.., -1)", x.explain(sheet, -1), due == null ? -1 : due.length);
        for (int k = 0; k < 2; k++) {
            D.due(at + "explain(.., " + k + ")", x.explain(sheet, k), due != null && k < due.length ? due[k] : -1);
        }
        return due == null ? -1 : due.length;
    }

    private static int foretold(Due.Dice dice, int run) {
        makeWay(dice, 10);
        int sheet = dice.between(10, 60);
        int roller = dice.roll(rollers);
        int grow = dice.roll(5) == 0 ? dice.roll(3) : dice.between(1, 100);
        int[] wear = new int[rollers];
        int[] beat = new int[rollers];
        for (int r = 0; r < rollers; r++) {
            wear[r] = dice.roll(3) == 0 ? dice.roll(500) : 0;
            beat[r] = dice.roll(4) == 0 ? dice.between(2, 20) : 0;
        }
        int corner = dice.roll(10) == 0 ? dice.between(1, length) : 0;
        PaperWay x = worn(wear, beat, corner);
        x.lay(20, false);
        x.tick(dice.roll(30));
        int due = -1;
        for (int n = 1; n <= 60 && due == -1; n++) {
            wear[roller] = Math.min(1000, wear[roller] + grow);
            PaperWay y = worn(wear, beat, corner);
            y.lay(sheet, false);
            y.tick(300);
            y.tick(100);
            if (y.sheet(0, 0) != 2) {
                due = n;
            }
        }
        D.due("run " + run + " foretold on " + text, x.foretold(roller, grow, sheet), due);
        return due;
    }

    private static PaperWay worn(int[] wear, int[] beat, int corner) {
        PaperWay x = Due.way(text);
        for (int r = 0; r < wear.length; r++) {
            x.set(r, 0, wear[r]);
            x.set(r, 1, beat[r]);
        }
        if (corner > 0) {
            x.corner(corner, true);
        }
        return x;
    }

    private static void crease(Due.Dice dice, int run) {
        int n = dice.between(1, 10);
        int[] place = new int[n];
        StringBuilder s = new StringBuilder("way 80;");
        for (int r = 0; r < n; r++) {
            place[r] = (r == 0 ? 0 : place[r - 1]) + dice.between(1, 7);
            s.append("roller " + place[r] + " speed 1;");
        }
        PaperWay x = Due.way(s.toString());
        int sheet = dice.between(10, 60);
        int stop = dice.between(1, 80);
        List<Integer> row = creasesAt(place, sheet, stop);
        while (row.size() > 3) {
            row.remove(dice.roll(row.size()));
        }
        while (row.size() < 3) {
            row.add(-1);
        }
        List<Integer> due = new ArrayList<>();
        for (int h = 1; h <= 80; h++) {
            List<Integer> at = creasesAt(place, sheet, h);
            while (at.size() < 3) {
                at.add(-1);
            }
            if (at.equals(row)) {
                due.add(h);
            }
        }
        String call = "run " + run + " " + s + " crease(" + sheet + ", " + row;
        D.due(call + ", -1)", x.crease(sheet, row.get(0), row.get(1), row.get(2), -1), due.size());
        for (int i = 0; i <= due.size(); i++) {
            D.due(call + ", " + i + ")", x.crease(sheet, row.get(0), row.get(1), row.get(2), i),
                    i < due.size() ? due.get(i) : -1);
        }
    }

    private static List<Integer> creasesAt(int[] place, int sheet, int h) {
        List<Integer> all = new ArrayList<>();
        for (int p : place) {
            if (10 * p > 10 * h - 10 * sheet && 10 * p <= 10 * h) {
                all.add(h - p);
            }
        }
        return all;
    }
}
