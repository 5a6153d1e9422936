/** Promises 13 to 17, sentence by sentence: what eyes observed, causes, what is foretold, creases (terms 3). */
public final class SentencesOfCausesTest {
    private static final Sentences S = new Sentences("SentencesOfCausesTest");
    private static final int LEAST = Integer.MIN_VALUE;
    private static final int MOST = Integer.MAX_VALUE;
    /** A SHEET of 20 steps, 50 a tick, is seen from 2 to 6, 6 to 10, 8 to 12, in which it is OUT. */
    private static final String WAY = "way 50;roller 10 speed 5;roller 30 speed 5;roller 49 speed 5;"
            + "eye 20;eye 40;eye 50;";
    private static final int[] PLAIN = {2, 6, 6, 10, 8, 12};

    public static void main(String[] args) {
        saw();
        forget();
        explainAnswers();
        explainRefusals();
        onTheWayWithNone();
        observedEyesAlone();
        wearAndBeat();
        blind();
        longer();
        cornerBehindEye();
        jamEndsIt();
        ticksEnd();
        fewestAndLeast();
        eachOfAllCauses();
        foretold();
        foretoldEnds();
        foretoldOnTheWay();
        creaseRows();
        creaseSteps();
        S.end(13, 17);
    }

    private static void saw() {
        S.promise(13, "OBSERVED of an EYE (each may be NONE: never; off NONE, if on is): true");
        PaperWay x = Due.way(WAY);
        S.due("both told", x.saw(0, 2, 6), true);
        S.due("one EYE", x.count(8), 1);
        S.due("told anew", x.saw(0, 2, 7), true);
        S.due("one EYE", x.count(8), 1);
        S.due("never not any more", x.saw(1, 6, -1), true);
        S.due("never", x.saw(2, -1, -1), true);
        S.due("three", x.count(8), 3);
        S.terms(3, "from which TICK on it saw (1 to 120, or never), from which on not any more (later, to 120, or never)");
        int[][] can = {{1, 2}, {1, 120}, {119, 120}, {1, -1}, {120, -1}, {-1, -1}, {60, 61}};
        for (int[] c : can) {
            S.due("saw(0, " + c[0] + ", " + c[1] + ")", x.saw(0, c[0], c[1]), true);
        }
        S.promise(13, "false: none such, numbers that can't be");
        PaperWay y = Due.way(WAY);
        for (int e : new int[] {-1, 3, 19, LEAST, MOST}) {
            S.due("EYE " + e, y.saw(e, 1, 2), false);
        }
        int[][] cannot = {{0, 5}, {0, -1}, {121, -1}, {-2, -1}, {-2, 5}, {LEAST, -1}, {MOST, -1}, {5, 5}, {5, 4}, {5, 0},
            {5, -2}, {5, 121}, {5, LEAST}, {5, MOST}, {120, 121}, {120, 120}, {-1, 1}, {-1, 120}, {-1, 0}, {-1, -2}};
        for (int[] c : cannot) {
            S.due("saw(0, " + c[0] + ", " + c[1] + ")", y.saw(0, c[0], c[1]), false);
        }
        S.due("nothing is OBSERVED", y.count(8), 0);
        y.saw(0, 3, 7);
        y.saw(0, 5, 5);
        S.due("a refused one leaves it", y.explain(20, -1), 1);
        S.due("no EYES", new PaperWay().saw(0, 1, 2), false);
    }

    private static void forget() {
        S.promise(14, "Nothing is OBSERVED any more: of how many EYES something was");
        PaperWay x = Due.way(WAY);
        S.due("of none", x.forget(), 0);
        tell(x, -1, -1, -1, -1, -1, -1);
        S.due("of three", x.forget(), 3);
        S.due("of none now", x.forget() * 10 + x.count(8), 0);
        S.due("so nothing wants a CAUSE", x.explain(20, -1), 0);
        x.saw(1, 6, 10);
        x.saw(1, 6, 10);
        S.due("of one, told twice", x.forget(), 1);
        tell(x, 2, 8, 6, 12, 8, 14);
        explained("asked", x, 20, 49);
        S.due("of three", x.forget(), 3);
        explained("asked again", x, 20);
        tell(x, 2, 8, 6, 12, 8, 14);
        explained("told again", x, 20, 49);
        Due.text(x, WAY);
        explained("behind a TEXT nothing is OBSERVED", x, 20);
    }

    private static void tell(PaperWay x, int... times) {
        for (int e = 0; e < times.length / 2; e++) {
            S.due("saw", x.saw(e, times[2 * e], times[2 * e + 1]), true);
        }
    }

    private static void explained(String when, PaperWay x, int length, int... causes) {
        S.due(when + ": how many", x.explain(length, -1), causes.length);
        for (int k = 0; k <= 2; k++) {
            S.due(when + ": CAUSE " + k, x.explain(length, k), k < causes.length ? causes[k] : -1);
        }
    }

    private static void unexplained(String when, PaperWay x, int length) {
        for (int k = -1; k <= 2; k++) {
            S.due(when + ": explain(.., " + k + ")", x.explain(length, k), -1);
        }
    }

    private static void explainAnswers() {
        S.promise(15, "CAUSES for a SHEET of a length, k NONE: how many (0 to 2), 0, 1: the k-th");
        PaperWay x = Due.way(WAY);
        explained("nothing OBSERVED", x, 20);
        tell(x, PLAIN);
        explained("as it goes", x, 20);
        tell(x, 2, 6, -1, -1, 8, 12);
        explained("one CAUSE", x, 20, 31);
        tell(x, 2, 6, -1, -1, -1, -1);
        explained("two CAUSES", x, 20, 31, 32);
        S.promise(15, "NONE: none EXPLAIN it, there is no k-th");
        for (int k : new int[] {2, 3, -2, LEAST, MOST}) {
            S.due("no " + k + "-th of two", x.explain(20, k), -1);
        }
        x.saw(0, 1, 6);
        unexplained("seen ahead of any SHEET", x, 20);
    }

    private static void explainRefusals() {
        S.promise(15, "-3: the length");
        PaperWay x = Due.way(WAY);
        for (int length : new int[] {9, 61, 0, -1, LEAST, MOST}) {
            S.due("length " + length, x.explain(length, -1), -3);
            S.due("ahead of NONE", x.explain(length, 5), -3);
            S.due("ahead of -5", new PaperWay().explain(length, -1), -3);
        }
        S.due("10", x.explain(10, -1), 0);
        S.due("60", x.explain(60, -1), 0);
        S.promise(15, "-5: there is no ROLLER");
        S.due("without a WAY", new PaperWay().explain(20, -1), -5);
        S.due("ahead of NONE", new PaperWay().explain(20, 7), -5);
    }

    private static void onTheWayWithNone() {
        S.terms(3, "laid alone (not to be TURNED) on the WAY with no WEAR, BEATS, CORNERS but these");
        PaperWay x = Due.way(WAY + "turn 12 back 5 hold 1 rest 5;");
        x.set(0, 0, 500);
        x.set(1, 1, 2);
        x.corner(33, true);
        x.lay(20, true);
        x.tick(7);
        tell(x, PLAIN);
        explained("its own WEAR, BEATS, CORNERS, SHEETS and turn play no part", x, 20);
        S.due("WEAR stays", x.set(0, 0, 0), 500);
        S.due("BEAT stays", x.set(1, 1, 0), 2);
        S.due("CORNERS stay", x.count(7), 1);
        S.due("SHEETS stay", x.count(4) * 10 + x.count(3), 17);
        // damp is of the WAY: 45 a tick: 190, 235 .. 415 in tick 7
        PaperWay y = Due.way("damp 90;roller 10 speed 5;roller 30 speed 5;roller 49 speed 5;eye 20;eye 40;");
        tell(y, 3, 7, 7, 12);
        explained("damp plays its part", y, 20);
    }

    private static void observedEyesAlone() {
        S.terms(3, "is seen so in 120 TICKS by each EYE of which something is OBSERVED");
        PaperWay x = Due.way(WAY);
        x.saw(1, 6, 10);
        explained("one EYE", x, 20);
        x.saw(2, 8, 12);
        explained("two", x, 20);
        x.saw(0, 2, 5);
        S.due("the third doesn't agree", x.explain(20, -1) != 0, true);
        x.forget();
        x.saw(1, 6, 10);
        explained("it plays no part any more", x, 20);
        x.saw(1, 6, 9);
        S.due("from which on not any more counts, too", x.explain(20, -1) != 0, true);
        x.saw(1, 5, 10);
        S.due("from which on counts, too", x.explain(20, -1) != 0, true);
    }

    private static void wearAndBeat() {
        S.terms(3, "r: WEAR of ROLLER r is 200");
        // 40 a tick by ROLLER 0: 140, 180, 220, 260, 300; then 50 by ROLLER 1
        PaperWay x = Due.way(WAY);
        tell(x, 3, 7, 7, 11, 9, 13);
        explained("ROLLER 0", x, 20, 0);
        // 300 in tick 4, TAIL 100; 40 a tick up to 500, TAIL 300 in tick 9; 50 a tick
        tell(x, 2, 7, 7, 11, 9, 13);
        explained("ROLLER 1", x, 20, 1);
        // 500 in tick 8; 540, 580, 620, 660, 700
        tell(x, 2, 6, 6, 11, 8, 13);
        explained("ROLLER 2", x, 20, 2);
        S.terms(3, "10 and r: 500");
        // 25 a tick by ROLLER 0: 200 in tick 4, 300 in tick 8; 400 in tick 10
        tell(x, 4, 10, 10, 14, 12, 16);
        explained("ROLLER 0", x, 20, 10);
        // 300 in tick 4; 400 in tick 8, 500 in tick 12; 600 in tick 14
        tell(x, 2, 8, 8, 14, 12, 16);
        explained("ROLLER 1", x, 20, 11);
        // 500 in tick 8; 600 in tick 12, 700 in tick 16
        tell(x, 2, 6, 6, 12, 8, 16);
        explained("ROLLER 2", x, 20, 12);
        // with damp 1 200 and 500 are just these: 39 (not 40) and 24 (not 25) a tick
        PaperWay z = Due.way("way 50;roller 10 speed 5;roller 30 speed 5;roller 49 speed 5;eye 18;eye 20;damp 1;");
        S.terms(3, "r: WEAR of ROLLER r is 200; 10 and r: 500");
        tell(z, 3, 7, 3, 8);
        explained("139, 178, 217, 256, 295, 334, 383 with TAIL 183", z, 20, 0);
        tell(z, 4, 11, 5, 11);
        explained("172, 196, 220 in ticks 3 to 5, TAIL 165, 214 in ticks 10, 11", z, 20, 10);
        S.terms(3, "20 and r: its BEAT is 3");
        // one ROLLER alone: HEAD 300, 340, 380, 380, 420, 460, 460, 500, 540, 540, 580, 620 in tick 11
        PaperWay y = Due.way("way 40;roller 30 speed 4;eye 33;eye 39;eye 40;");
        tell(y, 1, -1, 4, -1, 4, -1);
        explained("ROLLER 0", y, 60, 20);
    }

    private static void blind() {
        S.terms(3, "30 and e: EYE e is blind (it never sees)");
        for (int e = 0; e < 3; e++) {
            PaperWay x = Due.way(WAY);
            tell(x, PLAIN);
            x.saw(e, -1, -1);
            explained("EYE " + e, x, 20, 30 + e);
        }
        PaperWay y = Due.way(WAY);
        tell(y, 2, 6, 6, 10, -1, -1);
        y.saw(0, -1, -1);
        explained("two of them", y, 20, 30, 32);
    }

    private static void longer() {
        S.terms(3, "49: the SHEET is 10 steps longer");
        PaperWay x = Due.way(WAY);
        tell(x, 2, 8, 6, 12, 8, 14);
        explained("30 for 20", x, 20, 49);
        explained("30 is no longer one", x, 30);
        // 70 steps: HEAD 100 and 50 a tick; TAIL 200 in tick 16, 400 in tick 20, 500 in tick 22
        tell(x, 2, 16, 6, 20, 8, 22);
        explained("70 for 60", x, 60, 49);
        unexplained("70 for 50", x, 50);
    }

    private static void cornerBehindEye() {
        S.terms(3, "50 and e: there is a CORNER 2 steps behind EYE e (if that is LENGTH at most)");
        PaperWay x = Due.way(WAY);
        tell(x, 2, -1, -1, -1, -1, -1);
        explained("at 22", x, 20, 50);
        tell(x, 2, 6, 6, -1, -1, -1);
        explained("at 42", x, 20, 51);
        // EYE 2 is at 50 of 50: no CORNER at 52
        tell(x, 2, 6, 6, -1, 8, -1);
        unexplained("at 52 can't be", x, 20);
        String rollers = "roller 10 speed 5;roller 30 speed 5;roller 49 speed 5;eye 20;eye 40;eye 50;";
        PaperWay y = Due.way("way 52;" + rollers);
        tell(y, 2, 6, 6, -1, 8, -1);
        explained("at 52 of 52 it can", y, 20, 52);
        PaperWay z = Due.way("way 51;" + rollers);
        tell(z, 2, 6, 6, -1, 8, -1);
        unexplained("at 52 of 51 it can't", z, 20);
        // 2 steps and no less: an EYE at 42 would see it, one at 43 not
        PaperWay v = Due.way("way 60;roller 10 speed 5;roller 30 speed 5;roller 49 speed 5;roller 59 speed 5;"
                + "eye 40;eye 42;eye 43;");
        tell(v, 6, -1, 7, -1, -1, -1);
        explained("between 42 and 43", v, 20, 50);
        // 30 a tick: HEAD 430 in tick 11, where EYE 2 would see it
        PaperWay w = Due.way("way 60;roller 10 speed 3;roller 30 speed 3;roller 49 speed 3;roller 59 speed 3;"
                + "eye 40;eye 42;eye 43;");
        tell(w, 10, -1, 11, -1, -1, -1);
        explained("between 42 and 43, by 30", w, 20, 50);
    }

    private static void jamEndsIt() {
        S.terms(3, "a JAM ends it: what was not seen by then is never seen");
        // TAIL 100 with HEAD 200: no ROLLER under it
        PaperWay x = Due.way("roller 10 speed 5;eye 5;eye 12;eye 20;eye 21;");
        tell(x, -1, -1, 1, -1, 2, -1, -1, -1);
        explained("where it stands it is seen for ever", x, 10);
        for (int off = 3; off <= 120; off += 13) {
            x.saw(2, 2, off);
            S.due("not so with an end at " + off, x.explain(10, -1) != 0, true);
        }
        x.saw(2, 2, -1);
        explained("for ever", x, 10);
        for (int on = 3; on <= 120; on += 13) {
            x.saw(3, on, -1);
            S.due("nor seen later on, at " + on, x.explain(10, -1) != 0, true);
        }
        PaperWay y = Due.way("roller 10 speed 5;eye 21;eye 22;");
        for (int on = 1; on <= 120; on += 7) {
            y.saw(0, on, on == 120 ? -1 : on + 1);
            unexplained("no SHEET comes there, by no two CAUSES", y, 10);
        }
        y.saw(0, -1, -1);
        explained("never", y, 10);
        // the JAM comes in tick 7: an EYE told to end there
        x.saw(3, -1, -1);
        x.saw(1, 1, 7);
        S.due("nor does the JAM end it", x.explain(10, -1) != 0, true);
    }

    private static void ticksEnd() {
        S.terms(3, "is seen so in 120 TICKS");
        // 10 a tick: HEAD at 1210 in tick 120, TAIL of 60 steps at 1210 in tick 180
        PaperWay x = Due.way("way 300;roller 1 speed 1;roller 50 speed 1;roller 100 speed 1;roller 150 speed 1;"
                + "eye 60;eye 61;eye 62;eye 121;eye 122;");
        tell(x, 59, 119, 60, 120, 61, -1, 120, -1, -1, -1);
        explained("tick 120 counts, tick 121 doesn't", x, 60);
        x.saw(3, -1, -1);
        S.due("EYE 3 sees in tick 120", x.explain(60, -1) != 0, true);
        x.saw(3, 120, -1);
        x.saw(4, 120, -1);
        S.due("EYE 4 doesn't", x.explain(60, -1) != 0, true);
        x.saw(4, -1, -1);
        x.saw(2, 61, 120);
        S.due("EYE 2 sees in tick 120 still", x.explain(60, -1) != 0, true);
        x.saw(2, 61, -1);
        x.saw(1, 60, -1);
        S.due("EYE 1 doesn't", x.explain(60, -1) != 0, true);
    }

    private static void fewestAndLeast() {
        S.terms(3, "The fewest, of like ones the least number, then the least second one");
        PaperWay x = Due.way(WAY);
        // EYE 0 alone, a tick late: WEAR 200 of ROLLER 0, 140, 180, 220; or BEAT 3 .. 150, 200 is too early
        x.saw(0, 3, 7);
        explained("one CAUSE, though pairs would do", x, 20, 0);
        tell(x, -1, -1, -1, -1, -1, -1);
        explained("30 with 50, ahead of all three blind", x, 20, 30, 50);
        x.forget();
        x.saw(1, -1, -1);
        explained("31, ahead of 50", x, 20, 31);
        x.forget();
        x.saw(2, -1, -1);
        explained("32, ahead of 50, 51", x, 20, 32);
        x.saw(1, -1, -1);
        explained("50 alone, ahead of 31 with 32", x, 20, 50);
        // EYE 0 at 20 sees from tick 3 on for ever: ROLLER 0 at 40 or BEAT a tick, and a CORNER at 22
        x.forget();
        x.saw(0, 3, -1);
        explained("0 with 50", x, 20, 0, 50);
        x.saw(0, 4, -1);
        explained("10 with 50", x, 20, 10, 50);
        // EYE 1 a tick late and for ever
        x.forget();
        x.saw(1, 7, -1);
        explained("0 with 51, ahead of 1 with 51", x, 20, 0, 51);
        S.terms(3, "(its first PASSING; of two CAUSES for one ROLLER's WEAR the greater number counts");
        x.forget();
        tell(x, 4, 10, 10, 14, 12, 16);
        explained("10 alone, 0 and 10 as well", x, 20, 10);
    }

    /** From, to of each EYE of a SHEET laid alone with one CAUSE on another object; none for -1. */
    private static int[] seenWith(String way, int length, int[] eye, int cause) {
        PaperWay x = Due.way(way);
        if (cause >= 0 && cause < 20) {
            x.set(cause % 10, 0, cause < 10 ? 200 : 500);
        } else if (cause >= 20 && cause < 30) {
            x.set(cause - 20, 1, 3);
        } else if (cause >= 50) {
            x.corner(eye[cause - 50] + 2, true);
        }
        x.lay(cause == 49 ? length + 10 : length, false);
        x.tick(120);
        int[] seen = new int[2 * eye.length];
        for (int e = 0; e < eye.length; e++) {
            boolean saw = cause != 30 + e && x.passing(e, 0, 0) >= 0;
            seen[2 * e] = saw ? x.passing(e, 0, 0) : -1;
            seen[2 * e + 1] = saw ? x.passing(e, 0, 1) : -1;
        }
        return seen;
    }

    private static void eachOfAllCauses() {
        S.terms(3, "CAUSES: r: WEAR of ROLLER r is 200; 10 and r: 500; 20 and r: its BEAT is 3; 30 and e: EYE e is blind"
                + " (it never sees); 49: the SHEET is 10 steps longer; 50 and e: there is a CORNER 2 steps behind EYE e"
                + " (if that is LENGTH at most)");
        StringBuilder s = new StringBuilder();
        for (int r = 0; r < 10; r++) {
            s.append("roller ").append(9 + 10 * r).append(" speed 3;");
        }
        int[] eye = new int[19];
        for (int e = 0; e < 19; e++) {
            eye[e] = 10 + 5 * e;
            s.append("eye ").append(eye[e]).append(";");
        }
        String way = s.toString();
        int[][] seen = new int[70][];
        for (int c = -1; c < 69; c++) {
            seen[c + 1] = seenWith(way, 10, eye, c < 68 ? c : -1);
        }
        int own = 0;
        for (int c = 0; c < 68; c++) {
            int least = 0;
            while (!java.util.Arrays.equals(seen[least], seen[c + 1])) {
                least++;
            }
            PaperWay x = Due.way(way);
            tell(x, seen[c + 1]);
            int[] due = least == 0 ? new int[0] : new int[] {least - 1};
            explained("CAUSE " + c, x, 10, due);
            own += least == c + 1 ? 1 : 0;
        }
        S.due("most are seen to be themselves", own >= 64, true);
        int[] ofTheirOwn = {0, 9, 10, 19, 20, 28, 30, 48, 49, 50, 67};
        for (int c : ofTheirOwn) {
            PaperWay x = Due.way(way);
            tell(x, seen[c + 1]);
            explained("CAUSE " + c + " itself", x, 10, c);
        }
    }

    private static void foretold() {
        S.promise(16, "FORETOLD for a ROLLER whose WEAR grows (0 to 100)");
        PaperWay x = Due.way(WAY);
        S.due("grow 0", x.foretold(0, 0, 20), -1);
        S.due("grow 100: 1000 ahead of the 10th", x.foretold(0, 100, 20), 10);
        x.set(0, 0, 400);
        S.due("from 400 on", x.foretold(0, 100, 20), 6);
        x.set(0, 0, 1000);
        S.due("1000 at most", x.foretold(0, 100, 20), 1);
        S.due("WEAR stays", x.set(0, 0, 0), 1000);
        S.promise(16, "-2: no such ROLLER");
        for (int r : new int[] {-1, 3, 10, LEAST, MOST}) {
            S.due("ROLLER " + r, x.foretold(r, 0, 20), -2);
            S.due("ahead of -3", x.foretold(r, -1, 9), -2);
        }
        S.due("without a WAY", new PaperWay().foretold(0, 0, 20), -2);
        S.promise(16, "-3: a number");
        for (int v : new int[] {-1, 101, LEAST, MOST}) {
            S.due("grow " + v, x.foretold(0, v, 20), -3);
        }
        for (int v : new int[] {9, 61, 0, LEAST, MOST}) {
            S.due("length " + v, x.foretold(0, 0, v), -3);
        }
        S.due("10: no ROLLER under it from 200 to 300", x.foretold(0, 0, 10), 1);
        S.due("60", x.foretold(0, 0, 60), -1);
    }

    private static void foretoldEnds() {
        S.terms(3, "the number of the first that is not OUT, from 1 on, up to 60");
        // by 3, 2, 1 a tick up to 300, then 50: OUT; at WEAR 981 it gives 0
        int[][] due = {{980, 1}, {979, 2}, {922, 59}, {921, 60}};
        for (int[] d : due) {
            PaperWay x = Due.way(WAY);
            x.set(0, 0, d[0]);
            S.due("WEAR " + d[0] + " grows by 1", x.foretold(0, 1, 20), d[1]);
        }
        S.promise(16, "NONE: none by the 60th");
        PaperWay y = Due.way(WAY);
        y.set(0, 0, 920);
        S.due("the 61st would", y.foretold(0, 1, 20), -1);
        S.terms(3, "(till it is OUT, JAMMED, or 400 TICKS have gone)");
        // 1 a tick from 10 to 400 in tick 390, then 50: TAIL of 49 steps at 410 in tick 400, of 54 in tick 401
        PaperWay z = Due.way("way 41;roller 1 speed 1;roller 40 speed 5;");
        z.set(0, 0, 900);
        S.due("OUT in tick 400", z.foretold(0, 0, 49), -1);
        S.due("OUT in tick 401", z.foretold(0, 0, 54), 1);
        z.set(0, 0, 901);
        S.due("JAMMED at once", z.foretold(0, 0, 49), 1);
    }

    private static void foretoldOnTheWay() {
        S.terms(3, "on the WAY as it is (WEAR, BEATS, CORNERS; SHEETS aside; each from TICK 1 on)");
        PaperWay x = Due.way(WAY + "turn 12 back 5 hold 1 rest 1;");
        S.due("as it is", x.foretold(2, 0, 20), -1);
        x.set(0, 0, 1000);
        S.due("WEAR of another ROLLER", x.foretold(2, 0, 20), 1);
        x.set(0, 0, 0);
        x.corner(40, true);
        S.due("a CORNER", x.foretold(2, 0, 20), 1);
        x.corner(40, false);
        x.corner(9, true);
        S.due("a CORNER behind it", x.foretold(2, 0, 20), -1);
        // speed 3: 30 a tick; BEAT 2 in odd ticks alone; 100 + 30 n: TAIL never 490 to 499
        PaperWay y = Due.way("way 40;roller 30 speed 6;roller 39 speed 6;");
        S.due("360, 420, 480, TAIL 380, OUT", y.foretold(1, 0, 10), -1);
        y.set(0, 1, 2);
        y.set(1, 1, 2);
        S.due("BEATS slow it, not more", y.foretold(1, 0, 10), -1);
        y.lay(10, false);
        y.tick(1);
        S.due("SHEETS aside, be they in its way", y.foretold(1, 0, 10), -1);
        S.due("they stay", y.sheet(0, 1) * 10 + y.count(3), 3601);
        y.tick(300);
        y.set(1, 1, 0);
        y.set(0, 1, 0);
        y.lay(10, false);
        y.set(0, 0, 1000);
        y.tick(300);
        S.due("JAMMED", y.count(6), 1);
        y.set(0, 0, 0);
        S.due("JAMMED ones aside, too", y.foretold(1, 0, 10), -1);
        // from TICK 1 on: HEAD at a CORNER .. with BEAT 2 of the one ROLLER there it stands in even ticks
        PaperWay z = Due.way("way 40;roller 38 speed 9;roller 39 speed 2;");
        z.set(0, 1, 2);
        // TICK 1: 470, TAIL 370; TICK 2: 20 by ROLLER 1, TAIL 390: none under it. From TICK 2 on: 380, 470, 490 ..
        S.due("by TICK 1 at 90, then 20: not OUT", z.foretold(1, 0, 10), 1);
        z.tick(1);
        S.due("as in any TICK", z.foretold(1, 0, 10), 1);
        S.terms(3, "ahead of each WEAR of a ROLLER grows by so much (1000 at most)");
        PaperWay v = Due.way(WAY);
        v.set(0, 0, 880);
        S.due("980, 1000: the second", v.foretold(0, 100, 20), 2);
        v.set(0, 0, 881);
        S.due("981: the first", v.foretold(0, 100, 20), 1);
        v.set(0, 0, 0);
        v.set(1, 0, 500);
        S.due("of this ROLLER alone", v.foretold(0, 100, 20), 10);
    }

    private static void creaseRows() {
        S.promise(17, "(1 to 60 or 0, falling; NONE behind the last one: there are fewer)");
        PaperWay x = Due.way(WAY);
        int[][] can = {{60, 59, 58}, {60, 1, 0}, {2, 1, 0}, {1, 0, -1}, {0, -1, -1}, {60, -1, -1}, {60, 59, -1},
            {-1, -1, -1}};
        for (int[] c : can) {
            S.due("a row " + c[0] + " " + c[1] + " " + c[2], x.crease(60, c[0], c[1], c[2], -1) >= 0, true);
        }
        S.promise(17, "-3: the length, a row that can't be");
        for (int length : new int[] {9, 61, 0, -1, LEAST, MOST}) {
            S.due("length " + length, x.crease(length, -1, -1, -1, -1), -3);
            S.due("ahead of NONE", x.crease(length, -1, -1, -1, 999), -3);
        }
        int[][] cannot = {{61, -1, -1}, {60, 61, -1}, {61, 60, 59}, {-2, -1, -1}, {-1, -2, -1}, {-1, -1, -2}, {5, -2, -1},
            {5, 4, -2}, {5, 5, -1}, {5, 6, -1}, {6, 5, 5}, {6, 5, 6}, {0, 0, -1}, {-1, 5, -1}, {-1, -1, 5}, {-1, 5, 4},
            {5, -1, 4}, {5, -1, 0}, {-1, 0, -1}, {-1, -1, 0}, {LEAST, -1, -1}, {MOST, -1, -1}, {5, LEAST, -1},
            {5, 4, LEAST}, {MOST, 5, 4}};
        for (int[] c : cannot) {
            S.due("no row " + c[0] + " " + c[1] + " " + c[2], x.crease(60, c[0], c[1], c[2], -1), -3);
            S.due("ahead of NONE", x.crease(60, c[0], c[1], c[2], 999), -3);
        }
        S.due("length 10", x.crease(10, -1, -1, -1, -1) > 0, true);
    }

    private static void creaseSteps() {
        S.promise(17, "Steps h at which a SHEET of a length that stopped has just CREASES a, b, c");
        PaperWay x = Due.way("way 60;roller 5 speed 5;roller 20 speed 5;roller 30 speed 5;roller 34 speed 1;"
                + "roller 36 speed 1;");
        S.due("5 and 20, not more", x.crease(20, 5, -1, -1, -1), 2);
        S.due("from ROLLER 0", x.crease(20, 5, -1, -1, 0), 10);
        S.due("from ROLLER 1", x.crease(20, 5, -1, -1, 1), 25);
        S.due("two", x.crease(20, 12, 2, -1, 0), 32);
        S.due("three", x.crease(20, 14, 4, 0, 0), 34);
        S.due("three of four are not just these", x.crease(20, 19, 9, 5, -1), 0);
        S.due("two of three neither", x.crease(20, 14, 4, -1, -1), 0);
        S.due("four of them have no row", x.crease(20, 9, 5, 3, -1), 0);
        S.terms(3, "CREASES of a SHEET of a length that stopped with its HEAD at a whole step h (1 to LENGTH): steps from"
                + " the HEAD to each ROLLER under it (as in 2)");
        S.due("at the HEAD: 0", x.crease(10, 0, -1, -1, 0), 5);
        S.due("the length less 1", x.crease(10, 9, -1, -1, 0), 14);
        S.due("the length is at the TAIL, not under it", x.crease(10, 10, -1, -1, -1), 0);
        S.due("h 1 to 4, 15 to 19, 46 to 60", x.crease(10, -1, -1, -1, -1), 4 + 5 + 15);
        int[] none = new int[24];
        for (int i = 0; i < 24; i++) {
            none[i] = i < 4 ? 1 + i : i < 9 ? 11 + i : 37 + i;
            S.due("h of no CREASE, " + i, x.crease(10, -1, -1, -1, i), none[i]);
        }
        PaperWay y = Due.way("way 40;roller 39 speed 5;");
        S.due("LENGTH is the last h", y.crease(10, 1, -1, -1, 0), 40);
        S.due("41 is none", y.crease(10, 2, -1, -1, -1), 0);
        S.promise(17, "i NONE: how many, or the i-th. NONE: not so many");
        for (int i : new int[] {24, 25, -2, LEAST, MOST}) {
            S.due("no " + i + "-th", x.crease(10, -1, -1, -1, i), -1);
        }
        S.due("none at all: how many", x.crease(10, 10, -1, -1, -1), 0);
        S.due("none at all: the first", x.crease(10, 10, -1, -1, 0), -1);
        S.due("without a WAY each h", new PaperWay().crease(60, -1, -1, -1, 99), 100);
    }
}
