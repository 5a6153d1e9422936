import java.util.ArrayList;
import java.util.List;

/** Promises 5 to 12 against a plain model of section 2, on ways and calls that look random. */
public final class TrafficModelTest {
    private static final Due D = new Due("TrafficModelTest");

    /** A sheet as the document tells of it. */
    private static final class Sheet {
        int tenths;
        boolean turned;
        int head;
        int side = 1;
        int state;
        int stood;
        int came;

        int tail() {
            return head - tenths;
        }
    }

    private static boolean smooth;
    private static int length;
    private static int[] place;
    private static int[] speed;
    private static int[] wear;
    private static int[] beat;
    private static int[] eye;
    private static boolean[] sees;
    private static List<List<int[]>> passings;
    private static int turn;
    private static int back;
    private static int hold;
    private static int rest;
    private static int damp;
    private static int now;
    private static List<Integer> corners;
    private static List<Sheet> sheets;
    private static List<Sheet> pocket;

    public static void main(String[] args) {
        Due.Dice dice = new Due.Dice(7);
        int jams = 0;
        int outs = 0;
        int turned = 0;
        int fullPockets = 0;
        for (int run = 0; run < 4000; run++) {
            PaperWay x = new PaperWay();
            makeWay(dice);
            D.due("text", Due.text(x, wayText()), place.length + eye.length + 1 + (turn > 0 ? 1 : 0) + 1);
            for (int step = 0; step < 60; step++) {
                call(x, dice, run);
                if (step % 12 == 11) {
                    compare(x, run);
                }
            }
            jams += jammed() == null ? 0 : 1;
            for (Sheet s : sheets) {
                outs += s.state == 2 ? 1 : 0;
                turned += s.side == 2 ? 1 : 0;
            }
            fullPockets += pocket.size() > 1 ? 1 : 0;
        }
        System.out.println(jams + " jams, " + outs + " outs, " + turned + " turned, " + fullPockets + " full pockets");
        D.due("runs met jams, outs, turns, pockets", jams > 50 && outs > 500 && turned > 500 && fullPockets > 20, true);
        D.end();
    }

    private static void makeWay(Due.Dice dice) {
        length = dice.between(40, 90);
        // on a smooth way sheets come through, on others they jam soon
        smooth = dice.roll(2) == 0;
        place = smooth ? dense(dice) : rising(dice, dice.between(1, 10), length - 1, length / 8);
        speed = new int[place.length];
        for (int i = 0; i < place.length; i++) {
            speed[i] = smooth ? dice.between(6, 9) : dice.between(1, 9);
        }
        eye = rising(dice, dice.roll(8), length, length / 3);
        wear = new int[place.length];
        beat = new int[place.length];
        sees = new boolean[eye.length];
        passings = new ArrayList<>();
        for (int i = 0; i < eye.length; i++) {
            passings.add(new ArrayList<>());
        }
        turn = dice.roll(4) == 0 ? 0 : dice.between(Math.max(2, length / 6), length * 3 / 4);
        back = turn == 0 ? 0 : dice.between(1, turn - 1);
        if (turn != 0 && dice.roll(2) == 0) {
            back = Math.min(turn - 1, place[0] + dice.roll(8));
        }
        hold = dice.between(1, 3);
        rest = dice.roll(2) == 0 ? dice.between(1, 20) : dice.between(1, 4);
        damp = dice.roll(3) == 0 ? dice.roll(91) : 0;
        now = 0;
        corners = new ArrayList<>();
        sheets = new ArrayList<>();
        pocket = new ArrayList<>();
    }

    private static int[] dense(Due.Dice dice) {
        int n = (length - 3) / 9 + 1;
        int[] all = new int[Math.min(10, n)];
        for (int i = 0; i < all.length; i++) {
            all[i] = length - 1 - 9 * (all.length - 1 - i) - (i == all.length - 1 ? 0 : dice.roll(2));
        }
        return all;
    }

    private static int[] rising(Due.Dice dice, int n, int most, int gap) {
        int[] all = new int[n];
        int last = 0;
        int made = 0;
        while (made < n && last < most) {
            last = Math.min(most, last + dice.between(1, Math.max(1, gap)));
            all[made++] = last;
        }
        return java.util.Arrays.copyOf(all, made);
    }

    private static String wayText() {
        StringBuilder s = new StringBuilder("way " + length + ";");
        for (int i = 0; i < place.length; i++) {
            s.append("roller " + place[i] + " speed " + speed[i] + ";");
        }
        for (int e : eye) {
            s.append("eye " + e + ";");
        }
        if (turn > 0) {
            s.append("turn " + turn + " back " + back + " hold " + hold + " rest " + rest + ";");
        }
        return s.append("damp " + damp + ";").toString();
    }

    private static void call(PaperWay x, Due.Dice dice, int run) {
        String at = "run " + run + ": ";
        int kind = smooth ? dice.roll(17) : dice.roll(20);
        if (kind < 8) {
            int steps = dice.roll(3) == 0 ? dice.between(10, 60) : dice.between(10, 16);
            boolean turns = dice.roll(3) != 0;
            D.due(at + "lay", x.lay(steps, turns), lay(steps, turns));
        } else if (kind < 16) {
            int n = dice.between(0, 9);
            int done = 0;
            while (done < n && jammed() == null) {
                tick();
                done++;
            }
            D.due(at + "tick", x.tick(n), done);
        } else if (kind == 16) {
            boolean corner = dice.roll(2) == 0;
            D.due(at + "clear", x.clear(corner), clear(corner));
        } else if (kind == 17) {
            int p = dice.between(place[0], length);
            boolean is = dice.roll(8) == 0;
            boolean can = is ? corners.size() < 3 && !corners.contains(p) : corners.contains(p);
            if (can && is) {
                corners.add(p);
            } else if (can) {
                corners.remove(Integer.valueOf(p));
            }
            D.due(at + "corner", x.corner(p, is), can);
            if (!is && corners.size() > 1) {
                int first = corners.remove(0);
                D.due(at + "corner", x.corner(first, false), true);
            }
        } else if (kind == 18) {
            int r = dice.roll(place.length);
            int v = dice.roll(5) == 0 ? dice.roll(1001) : dice.roll(300);
            D.due(at + "wear", x.set(r, 0, v), wear[r]);
            wear[r] = v;
        } else {
            int r = dice.roll(place.length);
            int v = dice.roll(3) == 0 ? 0 : dice.between(2, 20);
            D.due(at + "beat", x.set(r, 1, v), beat[r]);
            beat[r] = v;
        }
    }

    private static List<Sheet> onWay() {
        List<Sheet> all = new ArrayList<>();
        for (Sheet s : sheets) {
            if (s.state == 0 || s.state == 3) {
                all.add(s);
            }
        }
        all.sort((a, b) -> Integer.compare(b.head, a.head));
        return all;
    }

    private static Sheet jammed() {
        for (Sheet s : sheets) {
            if (s.state == 3) {
                return s;
            }
        }
        return null;
    }

    private static boolean lies(int head, int tail) {
        for (Sheet s : onWay()) {
            if (s.head > tail && head > s.tail()) {
                return true;
            }
        }
        return false;
    }

    private static int lay(int steps, boolean turns) {
        if (sheets.size() == 40) {
            return -4;
        }
        int head = 10 * place[0];
        if (turns && turn == 0 || jammed() != null || lies(head, head - 10 * steps)) {
            return -5;
        }
        Sheet s = new Sheet();
        s.tenths = 10 * steps;
        s.turned = turns;
        s.head = head;
        sheets.add(s);
        return sheets.size() - 1;
    }

    private static void tick() {
        now++;
        for (Sheet s : onWay()) {
            boolean waits = turnsNow(s);
            boolean went = false;
            if (!waits) {
                int to = goal(s);
                went = to > s.head;
                s.head = Math.max(s.head, to);
                waits = turnsNow(s);
            }
            s.stood = went || waits ? 0 : s.stood + 1;
            if (waits && pocket.size() < hold) {
                pocket.add(s);
                s.state = 1;
                s.came = now;
            } else if (s.tail() >= 10 * length) {
                s.state = 2;
            }
        }
        for (Sheet s : onWay()) {
            if (s.stood == 5 && jammed() == null) {
                s.state = 3;
            }
        }
        if (!pocket.isEmpty()) {
            Sheet s = pocket.get(0);
            if (now - s.came >= rest && !lies(10 * back, 10 * back - s.tenths)) {
                pocket.remove(0);
                s.state = 0;
                s.head = 10 * back;
                s.side = 2;
                s.stood = 0;
            }
        }
        for (int e = 0; e < eye.length; e++) {
            look(e);
        }
    }

    private static boolean turnsNow(Sheet s) {
        return s.turned && s.side == 1 && s.tail() >= 10 * turn;
    }

    private static int goal(Sheet s) {
        int drive = 0;
        for (int r = 0; r < place.length; r++) {
            if (10 * place[r] > s.tail() && 10 * place[r] <= s.head) {
                int gives = 10 * speed[r] * Math.max(0, 1000 - wear[r] - damp) / 1000;
                if (beat[r] > 0 && now % beat[r] == 0) {
                    gives = 0;
                }
                drive = Math.max(drive, gives);
            }
        }
        int to = s.head + drive;
        for (int c : corners) {
            if (10 * c >= s.head) {
                to = Math.min(to, 10 * c);
            }
        }
        Sheet ahead = null;
        for (Sheet other : onWay()) {
            if (other.head > s.head && (ahead == null || other.head < ahead.head)) {
                ahead = other;
            }
        }
        return ahead == null ? to : Math.min(to, ahead.tail());
    }

    private static void look(int e) {
        boolean seen = false;
        for (Sheet s : onWay()) {
            seen = seen || 10 * eye[e] > s.tail() && 10 * eye[e] <= s.head;
        }
        List<int[]> all = passings.get(e);
        if (seen && !sees[e]) {
            all.add(new int[] {now, -1});
        } else if (!seen && sees[e]) {
            all.get(all.size() - 1)[1] = now;
        }
        sees[e] = seen;
    }

    private static int clear(boolean corner) {
        Sheet jam = jammed();
        if (jam == null) {
            return -5;
        }
        int p = Math.min(length, Math.max(1, jam.head / 10));
        if (corner && corners.size() < 3 && !corners.contains(p)) {
            corners.add(p);
        }
        int taken = 0;
        for (Sheet s : sheets) {
            if (s.state == 0 || s.state == 1 || s.state == 3) {
                s.state = 4;
                taken++;
            }
        }
        pocket.clear();
        for (int e = 0; e < eye.length; e++) {
            sees[e] = false;
        }
        return taken;
    }

    private static void compare(PaperWay x, int run) {
        String at = "run " + run + " tick " + now + ": ";
        D.due(at + "NOW", x.count(3), now);
        D.due(at + "SHEETS", x.count(4), sheets.size());
        D.due(at + "POCKET", x.count(5), pocket.size());
        Sheet jam = jammed();
        D.due(at + "JAMMED", x.count(6), jam == null ? -1 : sheets.indexOf(jam));
        D.due(at + "CORNERS", x.count(7), corners.size());
        for (int i = Math.max(0, sheets.size() - 6); i < sheets.size(); i++) {
            Sheet s = sheets.get(i);
            int[] due = {s.state, s.head, s.tail(), s.side, s.stood};
            for (int what = 0; what < 5; what++) {
                D.due(at + "sheet(" + i + ", " + what + ")", x.sheet(i, what), due[what]);
            }
        }
        for (int e = 0; e < eye.length; e++) {
            D.due(at + "sees(" + e + ")", x.sees(e), sees[e] ? 1 : 0);
            List<int[]> all = passings.get(e);
            int last = Math.min(12, all.size()) - 1;
            if (last >= 0) {
                D.due(at + "passing from", x.passing(e, last, 0), all.get(last)[0]);
                D.due(at + "passing to", x.passing(e, last, 1), all.get(last)[1]);
            }
            D.due(at + "no more passings", x.passing(e, last + 1, 0), -2);
        }
    }
}
